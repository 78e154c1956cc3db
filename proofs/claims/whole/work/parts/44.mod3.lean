/-! ===== the reference: T and P read ===== -/
section MOD3
variable {l : Launch} {D : va_G} {dA : Bool → ClassId}
theorem ons_1 {f : Nat → Int32} {k q : Nat} (h : bt f k = 1) : ons f k (q + 1) = ons f (k + 1) q + 1 := by rw [ons, if_pos h]
theorem ons_0 {f : Nat → Int32} {k q : Nat} (h : bt f k ≠ 1) : ons f k (q + 1) = 0 := by rw [ons, if_neg h]
/-- what a tree's reading leaves -/
def trP (h h' : am_H) (e : Nat → Nat → am_E) (gl gc ga : Nat → Int32) (t en : Nat) (T : Nat × Nat × Int32 × (Nat → Nat)) : Prop := ∃ gl' gc' ga', rdH h h' (e T.2.1 T.1) gl' gc' ga' ∧ (∀ s, s < sym t → gl' (600 * t + s) = nI (T.2.2.2 s) ∧ T.2.2.2 s ≤ 16) ∧ (∀ j, (∀ s, s < sym t → j ≠ 600 * t + s) → gl' j = gl j ∧ gc' j = gc j) ∧ (∀ j, j ≠ t → ga' j = ga j) ∧ (T.1 = 0 → mrd gl' gc' ga' t T.2.2.1 T.2.2.2) ∧ T.2.1 ≤ en ∧ T.1 < 10
set_option maxHeartbeats 4000000 in
set_option maxRecDepth 100000 in
theorem t_X10_small (d n0 : Nat) {h : am_H} {ct md : Nat} {to : Bool} {bl co cp bi en tc : Nat} {gl gc ga : Nat → Int32} (X : rdH h h (mO ct md to bl co cp bi en 0 tc) gl gc ga) {f : Nat → Int32} (hf : h 47 = some (.inl (false, 4000, f))) (hE : en ≤ 32000) (hk : bi ≤ en) {t nb : Nat} (ht : t ≤ 2) (hnb : nb ≤ 9) (hnb1 : 1 ≤ nb) {gp : Bool} (hgp : gp = decide (t = 0)) (hz : ∀ s, s < sym t → gl (600 * t + s) = nI 0) (hga : ga t = -1) (hd : 3 ≤ d) : am_Ct l D dA m_X10_small d 0 0 n0 [am_r 46, .inl (nI t), .inl (nI nb)] h (am_qv fun h' => trP h h' (fun bi fa => (mO ct md to bl co cp bi en fa tc)) gl gc ga t en (treR f en (sym t) nb (fun n k => lnsR f en gp n n 0 k (fun _ => 0)) bi)) := by
  refine am_Cv (by decide +kernel) rfl rfl ?_
  have hsy := sym_le t
  refine am_aload_n dX10_small_0 rfl rfl ?_
  refine am_iload_n dX10_small_1 rfl rfl ?_
  refine am_iload_n dX10_small_2 rfl rfl ?_
  refine am_vi (t_X10_many (d - 1) _ X hf hE hk ht hnb hnb1 (by omega)) k_X10_many l_X10_97 dX10_small_3 rfl rfl rfl rfl X.2.1 (by omega) (Nat.le_refl _) (Nat.le_refl _) (fun x h1 hx => ?_)
  obtain ⟨ga', F, k', n', rfl, rfl, hga', hcase⟩ := hx
  have Y := (X.m (mO ct md to bl co cp k' en F tc)).a ga'
  obtain ⟨H0, eH0⟩ : ∃ H0, H0 = am_set (am_set h 46 (mO ct md to bl co cp k' en F tc)) 51 (.inl (false, 3, ga')) := ⟨_, rfl⟩
  rw [← eH0] at Y ⊢
  clear eH0
  refine am_istore_n dX10_small_6 rfl rfl ?_
  refine am_iconst (v := nI 0) dX10_small_7 rfl (by decide +kernel) ?_
  refine am_istore dX10_small_8 rfl rfl ?_
  have none : ∀ (T : Nat × Nat × Int32 × (Nat → Nat)), (treR f en (sym t) nb (fun n k => lnsR f en gp n n 0 k (fun _ => 0)) bi) = T → n' = 0 → T.1 = F → T.2.1 = k' → (∀ s, T.2.2.2 s = 0) → (T.1 = 0 → T.2.2.1 ≠ -1 ∧ ga' t = T.2.2.1 ∧ ∃ s, s < sym t ∧ T.2.2.1 = nI s) → k' ≤ en → F < 10 → ∀ x5, am_At l D dA m_X10_small d 0 0 0 0 n0 none (am_qv fun h' => trP h h' (fun bi fa => (mO ct md to bl co cp bi en fa tc)) gl gc ga t en (treR f en (sym t) nb (fun n k => lnsR f en gp n n 0 k (fun _ => 0)) bi)) 0 0 10 [some (am_r 46), some (.inl (nI t)), some (.inl (nI nb)), some (.inl (nI n')), some (.inl (nI 0)), x5] [] H0 := by
    intro T eT hn0 e1 e2 e3 e4 hke hF x5
    subst hn0
    rw [eT]
    refine am_iload dX10_small_10 rfl rfl ?_
    refine am_iload_n dX10_small_12 rfl rfl ?_
    refine am_ncmp_ge 119 dX10_small_13 rfl rfl (by omega) (by omega) (fun hc => ?_) (fun hc => ?_)
    · refine am_iload_n dX10_small_119 rfl rfl ?_
      refine am_nif_le 135 dX10_small_120 rfl rfl (by omega) (fun hq => ?_) (fun hq => ?_)
      · exact am_rv dX10_small_135 rfl rfl rfl ⟨gl, gc, ga', by rw [e1, e2]; exact Y, fun s hs => by rw [e3 s]; exact ⟨hz s hs, Nat.zero_le _⟩, fun j hj => ⟨rfl, rfl⟩, hga', fun g => ⟨(e4 g).2.1, fun s hs => by rw [e3 s]; exact ⟨hz s hs, Nat.zero_le _⟩, fun q => absurd q (e4 g).1, fun _ => (e4 g).2.2⟩, by rw [e2]; exact hke, by rw [e1]; exact hF⟩
      · omega
    · omega
  rcases hcase with ⟨a1, rfl, e9, rfl⟩ | ⟨a1, a2, rfl, rfl, rfl⟩ | ⟨a1, a2, a3, rfl, e9, rfl⟩ | ⟨a1, a2, a3, rfl, rfl, rfl⟩ | ⟨a1, a2, a3, rfl, rfl, rfl, a4⟩ | ⟨a1, a2, a3, rfl, rfl, rfl, a4⟩
  · exact none (1, en, -1, fun _ => 0) (by unfold treR; rw [if_pos a1]) rfl rfl e9.symm (fun _ => rfl) (fun g => by cases g) (Nat.le_of_eq e9) (by omega) _
  · exact none (3, bi + nb, -1, fun _ => 0) (by unfold treR; rw [if_neg (by omega), if_pos a2]) rfl rfl rfl (fun _ => rfl) (fun g => by cases g) a1 (by omega) _
  · exact none (1, en, -1, fun _ => 0) (by unfold treR; rw [if_neg (by omega), if_neg (by omega), if_pos a2, if_pos a3]) rfl rfl e9.symm (fun _ => rfl) (fun g => by cases g) (Nat.le_of_eq e9) (by omega) _
  · exact none (3, bi + nb + nb, -1, fun _ => 0) (by unfold treR; rw [if_neg (by omega), if_neg (by omega), if_pos a2, if_neg (by omega), if_pos a3]) rfl rfl rfl (fun _ => rfl) (fun g => by cases g) a1 (by omega) _
  · exact none (0, bi + nb + nb, nI (num f (bi + nb) nb), fun _ => 0) (by unfold treR; rw [if_neg (by omega), if_neg (by omega), if_pos a2, if_neg (by omega), if_neg (by omega)]) rfl rfl rfl (fun _ => rfl) (fun g => ⟨am_nm1 (by omega), a4, _, a3, rfl⟩) a1 (by omega) _
  have p9 : 2 ^ nb ≤ 2 ^ 9 := Nat.pow_le_pow_right (by omega) hnb
  obtain ⟨n, en0⟩ : ∃ n, n = num f bi nb := ⟨_, rfl⟩
  have hTT : ∀ R, lnsR f en gp n n 0 (bi + nb) (fun _ => 0) = R → (treR f en (sym t) nb (fun n k => lnsR f en gp n n 0 k (fun _ => 0)) bi) = ((if R.1 = 0 then (if krf R.2.2 (sym t) = 65536 then 0 else 2) else R.1), R.2.1, -1, R.2.2) := by
    intro R eR
    unfold treR
    rw [if_neg (by omega), if_neg (by omega), if_neg (by omega), ← en0]
    subst eR
    rfl
  rw [← en0] at a2 a3 ⊢
  clear none en0
  obtain ⟨R, eR⟩ : ∃ R, R = lnsR f en gp n n 0 (bi + nb) (fun _ => 0) := ⟨_, rfl⟩
  have hTT := hTT R eR.symm
  rw [hTT]
  clear hTT
  have tail : ∀ (H : am_H) (F kb : Nat) (g : Nat → Int32) (x4 x5 : Option am_V), rdH h H (mO ct md to bl co cp kb en F tc) g gc ga' → R.1 = F → R.2.1 = kb → (∀ s, s < sym t → g (600 * t + s) = nI (R.2.2 s) ∧ R.2.2 s ≤ 16) → (∀ j, (∀ s, s < sym t → j ≠ 600 * t + s) → g j = gl j) → kb ≤ en → F < 10 → am_At l D dA m_X10_small d 0 0 0 0 n0 none (am_qv fun h' => trP h h' (fun bi fa => (mO ct md to bl co cp bi en fa tc)) gl gc ga t en ((if R.1 = 0 then (if krf R.2.2 (sym t) = 65536 then 0 else 2) else R.1), R.2.1, (-1 : Int32), R.2.2)) 0 0 119 [some (am_r 46), some (.inl (nI t)), some (.inl (nI nb)), some (.inl (nI n)), x4, x5] [] H := by
    intro H F kb g x4 x5 Z e1 e2 e3 e4 hke hF
    refine am_iload_n dX10_small_119 rfl rfl ?_
    refine am_nif_le 135 dX10_small_120 rfl rfl (by omega) (fun hq => ?_) (fun hq => ?_)
    · omega
    · refine am_aload_n dX10_small_123 rfl rfl ?_
      refine am_get f_X10_73 dX10_small_124 rfl Z.2.1 rfl ?_
      refine am_nif_ne 135 dX10_small_127 rfl rfl (by omega) (fun hq2 => ?_) (fun hq2 => ?_)
      · exact am_rv dX10_small_135 rfl rfl rfl ⟨g, gc, ga', by show rdH h H (mO ct md to bl co cp R.2.1 en (if R.1 = 0 then _ else R.1) tc) _ _ _; rw [if_neg (by omega), e1, e2]; exact Z, e3, fun j hj => ⟨e4 j hj, rfl⟩, hga', fun z => by rw [if_neg (by omega)] at z; omega, by show R.2.1 ≤ en; omega, by show (if R.1 = 0 then _ else R.1) < 10; rw [if_neg (by omega)]; omega⟩
      · subst hq2
        refine am_aload_n dX10_small_130 rfl rfl ?_
        refine am_iload_n dX10_small_131 rfl rfl ?_
        refine am_vv (t_X10_complete (d - 1) _ Z.2.1 ht Z.2.2.1 (len := R.2.2) (fun s hs => (e3 s hs).1) (fun s hs => (e3 s hs).2) Z.2.2.2.1 (by omega)) k_X10_complete l_X10_101 dX10_small_132 rfl rfl rfl rfl Z.2.1 (by omega) (Nat.le_refl _) (Nat.le_refl _) (fun h1 hx => ?_)
        obtain ⟨gc', rfl, c1, c2⟩ := hx
        refine am_rv dX10_small_135 rfl rfl rfl ⟨g, gc', ga', by show rdH h _ (mO ct md to bl co cp R.2.1 en (if R.1 = 0 then _ else R.1) tc) _ _ _; rw [if_pos e1, e2]; exact (Z.m _).c gc', e3, fun j hj => ⟨e4 j hj, c2 j hj⟩, hga', fun z => ⟨a4.trans hga, e3, fun _ => ⟨?_, c1⟩, fun q => absurd rfl q⟩, by show R.2.1 ≤ en; omega, by show (if R.1 = 0 then _ else R.1) < 10; rw [if_pos e1]; split <;> omega⟩
        have z : (if R.1 = 0 then (if krf R.2.2 (sym t) = 65536 then 0 else 2) else R.1) = 0 := z
        rw [if_pos e1] at z
        by_cases zz : krf R.2.2 (sym t) = 65536
        · exact zz
        · rw [if_neg zz] at z
          cases z
  have ex10 : ∀ (H : am_H) (F kb i : Nat) (g : Nat → Int32) (x5 : Option am_V), rdH h H (mO ct md to bl co cp kb en F tc) g gc ga' → R.1 = F → R.2.1 = kb → (∀ s, s < sym t → g (600 * t + s) = nI (R.2.2 s) ∧ R.2.2 s ≤ 16) → (∀ j, (∀ s, s < sym t → j ≠ 600 * t + s) → g j = gl j) → kb ≤ en → F < 10 → 0 < F → i < 2 ^ 20 → am_At l D dA m_X10_small d 0 0 0 0 n0 none (am_qv fun h' => trP h h' (fun bi fa => (mO ct md to bl co cp bi en fa tc)) gl gc ga t en ((if R.1 = 0 then (if krf R.2.2 (sym t) = 65536 then 0 else 2) else R.1), R.2.1, (-1 : Int32), R.2.2)) 0 0 10 [some (am_r 46), some (.inl (nI t)), some (.inl (nI nb)), some (.inl (nI n)), some (.inl (nI i)), x5] [] H := by
    intro H F kb i g x5 Z e1 e2 e3 e4 hke hF hF0 hi
    refine am_iload dX10_small_10 rfl rfl ?_
    refine am_iload_n dX10_small_12 rfl rfl ?_
    refine am_ncmp_ge 119 dX10_small_13 rfl rfl (by omega) (by omega) (fun hc => ?_) (fun hc => ?_)
    · exact tail H F kb g _ _ Z e1 e2 e3 e4 hke hF
    · refine am_aload_n dX10_small_16 rfl rfl ?_
      refine am_get f_X10_73 dX10_small_17 rfl Z.2.1 rfl ?_
      refine am_nif_ne 119 dX10_small_20 rfl rfl (by omega) (fun hq => ?_) (fun hq => ?_)
      · exact tail H F kb g _ _ Z e1 e2 e3 e4 hke hF
      · omega
  have ex71 : ∀ (H : am_H) (F kb i : Nat) (g : Nat → Int32) (x5 : Option am_V), rdH h H (mO ct md to bl co cp kb en F tc) g gc ga' → R.1 = F → R.2.1 = kb → (∀ s, s < sym t → g (600 * t + s) = nI (R.2.2 s) ∧ R.2.2 s ≤ 16) → (∀ j, (∀ s, s < sym t → j ≠ 600 * t + s) → g j = gl j) → kb ≤ en → F < 10 → 0 < F → i < 2 ^ 19 → am_At l D dA m_X10_small d 0 0 0 0 n0 none (am_qv fun h' => trP h h' (fun bi fa => (mO ct md to bl co cp bi en fa tc)) gl gc ga t en ((if R.1 = 0 then (if krf R.2.2 (sym t) = 65536 then 0 else 2) else R.1), R.2.1, (-1 : Int32), R.2.2)) 0 0 71 [some (am_r 46), some (.inl (nI t)), some (.inl (nI nb)), some (.inl (nI n)), some (.inl (nI i)), x5] [] H := by
    intro H F kb i g x5 Z e1 e2 e3 e4 hke hF hF0 hi
    refine am_aload_n dX10_small_71 rfl rfl ?_
    refine am_get f_X10_73 dX10_small_72 rfl Z.2.1 rfl ?_
    refine am_nif_ne 93 dX10_small_75 rfl rfl (by omega) (fun hc => ?_) (fun hc => ?_)
    · refine am_iinc (n := 1) dX10_small_93 rfl rfl (nI_1 i) ?_
      refine am_iload_n dX10_small_96 rfl rfl ?_
      refine am_nif_ne 116 dX10_small_97 rfl rfl (by omega) (fun ht0 => ?_) (fun ht0 => ?_)
      · refine am_goto 10 dX10_small_116 rfl rfl ?_
        exact ex10 H F kb (i + 1) g _ Z e1 e2 e3 e4 hke hF hF0 (by omega)
      · refine am_iload dX10_small_100 rfl rfl ?_
        refine am_iconst (v := nI 3) dX10_small_102 rfl (by decide +kernel) ?_
        refine am_ncmp_ne 116 dX10_small_103 rfl rfl (by omega) (by omega) (fun hi3 => ?_) (fun hi3 => ?_)
        · refine am_goto 10 dX10_small_116 rfl rfl ?_
          exact ex10 H F kb (i + 1) g _ Z e1 e2 e3 e4 hke hF hF0 (by omega)
        · refine am_iload dX10_small_106 rfl rfl ?_
          refine am_aload_n dX10_small_108 rfl rfl ?_
          refine am_iconst (v := nI 2) dX10_small_109 rfl (by decide +kernel) ?_
          refine am_vi (t_X10_take1 (d - 1) _ Z.2.1 hF0 (by omega) (n := 2) (by omega)) k_X10_take l_X10_90 dX10_small_110 rfl rfl rfl rfl Z.2.1 (by omega) (Nat.le_refl _) (Nat.le_refl _) (fun x h1 hx => ?_)
          obtain ⟨rfl, hh⟩ := hx
          obtain rfl := hh.symm
          refine am_iadd dX10_small_113 rfl ?_
          rw [nI_add]
          refine am_istore dX10_small_114 rfl rfl ?_
          refine am_goto 10 dX10_small_116 rfl rfl ?_
          exact ex10 H F kb (i + 1 + 0) g _ Z e1 e2 e3 e4 hke hF hF0 (by omega)
    · omega
  have loop : ∀ (q i kb : Nat) (len : Nat → Nat) (g : Nat → Int32) (H : am_H) (x5 : Option am_V), n ≤ i + q → i ≤ n + 3 → rdH h H (mO ct md to bl co cp kb en 0 tc) g gc ga' → lnsR f en gp n q i kb len = R → (∀ s, s < sym t → g (600 * t + s) = nI (len s) ∧ len s ≤ 16) → (∀ j, (∀ s, s < sym t → j ≠ 600 * t + s) → g j = gl j) → kb ≤ en → am_At l D dA m_X10_small d 0 0 0 0 n0 none (am_qv fun h' => trP h h' (fun bi fa => (mO ct md to bl co cp bi en fa tc)) gl gc ga t en ((if R.1 = 0 then (if krf R.2.2 (sym t) = 65536 then 0 else 2) else R.1), R.2.1, (-1 : Int32), R.2.2)) 0 0 10 [some (am_r 46), some (.inl (nI t)), some (.inl (nI nb)), some (.inl (nI n)), some (.inl (nI i)), x5] [] H := by
    intro q
    induction q with
    | zero =>
      intro i kb len g H x5 hq hi Z hR g1 g2 hke
      have hR : (0, kb, len) = R := hR
      refine am_iload dX10_small_10 rfl rfl ?_
      refine am_iload_n dX10_small_12 rfl rfl ?_
      refine am_ncmp_ge 119 dX10_small_13 rfl rfl (by omega) (by omega) (fun hc => ?_) (fun hc => ?_)
      · exact tail H 0 kb g _ _ Z (by rw [← hR]) (by rw [← hR]) (by rw [← hR]; exact g1) g2 hke (by omega)
      · omega
    | succ q ih =>
      intro i kb len g H x5 hq hi Z hR g1 g2 hke
      rw [lnsR] at hR
      refine am_iload dX10_small_10 rfl rfl ?_
      refine am_iload_n dX10_small_12 rfl rfl ?_
      refine am_ncmp_ge 119 dX10_small_13 rfl rfl (by omega) (by omega) (fun hc => ?_) (fun hc => ?_)
      · rw [if_pos hc] at hR
        exact tail H 0 kb g _ _ Z (by rw [← hR]) (by rw [← hR]) (by rw [← hR]; exact g1) g2 hke (by omega)
      · rw [if_neg (by omega)] at hR
        refine am_aload_n dX10_small_16 rfl rfl ?_
        refine am_get f_X10_73 dX10_small_17 rfl Z.2.1 rfl ?_
        refine am_nif_ne 119 dX10_small_20 rfl rfl (by omega) (fun hq0 => ?_) (fun hq0 => ?_)
        · omega
        · refine am_aload_n dX10_small_23 rfl rfl ?_
          refine am_iconst (v := nI 3) dX10_small_24 rfl (by decide +kernel) ?_
          refine am_vi (t_X10_take (d - 1) _ Z.2.1 ((Z.tp (by simp)).trans hf) hE hke (n := 3) (by omega) (by omega)) k_X10_take l_X10_90 dX10_small_25 rfl rfl rfl rfl Z.2.1 (by omega) (Nat.le_refl _) (Nat.le_refl _) (fun z h2 hx => ?_)
          obtain ⟨hx1, hx2⟩ := hx
          have hol := ons_le f 10 (kb + 3)
          have hn3 := num_lt f kb 3
          have fail : ∀ (F k2 : Nat) (v : Nat) (H2 : am_H), rdH h H2 (mO ct md to bl co cp k2 en F tc) g gc ga' → (F, k2, len) = R → k2 ≤ en → F < 10 → 0 < F → am_At l D dA m_X10_small d 0 0 0 0 n0 none (am_qv fun h' => trP h h' (fun bi fa => (mO ct md to bl co cp bi en fa tc)) gl gc ga t en ((if R.1 = 0 then (if krf R.2.2 (sym t) = 65536 then 0 else 2) else R.1), R.2.1, (-1 : Int32), R.2.2)) 0 0 71 [some (am_r 46), some (.inl (nI t)), some (.inl (nI nb)), some (.inl (nI n)), some (.inl (nI i)), some (.inl (nI v))] [] H2 := by
            intro F k2 v H2 Z2 hR2 hk2 hF hF0
            exact ex71 H2 F k2 i g _ Z2 (by rw [← hR2]) (by rw [← hR2]) (by rw [← hR2]; exact g1) g2 hk2 hF hF0 (by omega)
          have good : ∀ (v : Nat) (H2 : am_H), rdH h H2 (mO ct md to bl co cp (kb + tln f kb) en 0 tc) g gc ga' → kb + tln f kb ≤ en → tlv f kb = v → v ≤ 16 → am_At l D dA m_X10_small d 0 0 0 0 n0 none (am_qv fun h' => trP h h' (fun bi fa => (mO ct md to bl co cp bi en fa tc)) gl gc ga t en ((if R.1 = 0 then (if krf R.2.2 (sym t) = 65536 then 0 else 2) else R.1), R.2.1, (-1 : Int32), R.2.2)) 0 0 71 [some (am_r 46), some (.inl (nI t)), some (.inl (nI nb)), some (.inl (nI n)), some (.inl (nI i)), some (.inl (nI v))] [] H2 := by
            intro v H2 Z2 hk2 hv hv16
            rw [if_neg (by omega), hv, if_neg (by omega)] at hR
            have g1' : ∀ s, s < sym t → upd g (600 * t + i) (nI v) (600 * t + s) = nI (updN len i v s) ∧ updN len i v s ≤ 16 := by
              intro s hs
              by_cases zs : s = i
              · subst zs; rw [upd_eq, updN_eq]; exact ⟨rfl, hv16⟩
              · rw [upd_ne (by omega), updN_ne zs]; exact g1 s hs
            have g2' : ∀ j, (∀ s, s < sym t → j ≠ 600 * t + s) → upd g (600 * t + i) (nI v) j = gl j := fun j hj => by
              rw [upd_ne (hj i (by omega))]; exact g2 j hj
            have Z3 := Z2.ln (upd g (600 * t + i) (nI v))
            refine am_aload_n dX10_small_71 rfl rfl ?_
            refine am_get f_X10_73 dX10_small_72 rfl Z2.2.1 rfl ?_
            refine am_nif_ne 93 dX10_small_75 rfl rfl (by omega) (fun h75 => ?_) (fun h75 => ?_)
            · omega
            · refine am_aload_n dX10_small_78 rfl rfl ?_
              refine am_get f_X10_16 dX10_small_79 rfl Z2.2.1 rfl ?_
              refine am_sipush (v := nI 600) dX10_small_82 rfl (by decide +kernel) ?_
              refine am_iload_n dX10_small_85 rfl rfl ?_
              refine am_imul dX10_small_86 rfl ?_
              refine am_iload dX10_small_87 rfl rfl ?_
              refine am_iadd dX10_small_89 rfl ?_
              rw [pk_mul, nI_add]
              refine am_iload dX10_small_90 rfl rfl ?_
              refine am_iast dX10_small_92 rfl Z2.2.2.1 (by omega) (by omega) ?_
              refine am_iinc (n := 1) dX10_small_93 rfl rfl (nI_1 i) ?_
              refine am_iload_n dX10_small_96 rfl rfl ?_
              refine am_nif_ne 116 dX10_small_97 rfl rfl (by omega) (fun ht0 => ?_) (fun ht0 => ?_)
              · refine am_goto 10 dX10_small_116 rfl rfl ?_
                rw [if_neg (by rw [hgp]; intro zz; have := of_decide_eq_true zz.1; omega)] at hR
                exact ih (i + 1) _ _ _ _ _ (by omega) (by omega) Z3 hR g1' g2' hk2
              · refine am_iload dX10_small_100 rfl rfl ?_
                refine am_iconst (v := nI 3) dX10_small_102 rfl (by decide +kernel) ?_
                refine am_ncmp_ne 116 dX10_small_103 rfl rfl (by omega) (by omega) (fun hi3 => ?_) (fun hi3 => ?_)
                · refine am_goto 10 dX10_small_116 rfl rfl ?_
                  rw [if_neg (by intro zz; omega)] at hR
                  exact ih (i + 1) _ _ _ _ _ (by omega) (by omega) Z3 hR g1' g2' hk2
                · rw [if_pos ⟨by rw [hgp]; exact decide_eq_true ht0, by omega⟩] at hR
                  refine am_iload dX10_small_106 rfl rfl ?_
                  refine am_aload_n dX10_small_108 rfl rfl ?_
                  refine am_iconst (v := nI 2) dX10_small_109 rfl (by decide +kernel) ?_
                  refine am_vi (t_X10_take (d - 1) _ Z3.2.1 ((Z3.tp (by simp)).trans hf) hE hk2 (n := 2) (by omega) (by omega)) k_X10_take l_X10_90 dX10_small_110 rfl rfl rfl rfl Z3.2.1 (by omega) (Nat.le_refl _) (Nat.le_refl _) (fun z h4 hx => ?_)
                  obtain ⟨hy1, hy2⟩ := hx
                  have hn2 := num_lt f (kb + tln f kb) 2
                  by_cases hE2 : kb + tln f kb + 2 ≤ en
                  · obtain ⟨rfl, rfl⟩ := hy1 hE2
                    rw [if_neg (by omega)] at hR
                    have Z4 := Z3.m (mO ct md to bl co cp (kb + tln f kb + 2) en 0 tc)
                    refine am_iadd dX10_small_113 rfl ?_
                    rw [nI_add]
                    refine am_istore dX10_small_114 rfl rfl ?_
                    refine am_goto 10 dX10_small_116 rfl rfl ?_
                    exact ih (i + 1 + num f (kb + tln f kb) 2) _ _ _ _ _ (by omega) (by omega) Z4 (by rw [show i + 1 + num f (kb + tln f kb) 2 = i + num f (kb + tln f kb) 2 + 1 by omega]; exact hR) g1' g2' hE2
                  · obtain ⟨rfl, rfl⟩ := hy2 (by omega)
                    rw [if_pos (by omega)] at hR
                    have Z4 := Z3.m (mO ct md to bl co cp en en 1 tc)
                    have hn4 := num_lt f (kb + tln f kb) (en - (kb + tln f kb))
                    have pp : 2 ^ (en - (kb + tln f kb)) ≤ 2 ^ 2 := Nat.pow_le_pow_right (by omega) (by omega)
                    refine am_iadd dX10_small_113 rfl ?_
                    rw [nI_add]
                    refine am_istore dX10_small_114 rfl rfl ?_
                    refine am_goto 10 dX10_small_116 rfl rfl ?_
                    exact ex10 _ 1 en (i + 1 + num f (kb + tln f kb) (en - (kb + tln f kb))) _ _ Z4 (by rw [← hR]) (by rw [← hR]) (by rw [← hR]; exact g1') g2' (Nat.le_refl _) (by omega) (by omega) (by omega)
          by_cases hE3 : kb + 3 ≤ en
          · obtain ⟨rfl, rfl⟩ := hx1 hE3
            have Z1 := Z.m (mO ct md to bl co cp (kb + 3) en 0 tc)
            refine am_istore dX10_small_28 rfl rfl ?_
            refine am_iload dX10_small_30 rfl rfl ?_
            refine am_bipush (v := nI 7) dX10_small_32 rfl (by decide +kernel) ?_
            refine am_ncmp_lt 71 dX10_small_34 rfl rfl (by omega) (by omega) (fun h7 => ?_) (fun h7 => ?_)
            · have e1 : tln f kb = 3 := by unfold tln; rw [if_pos h7]
              have e2 : tlv f kb = num f kb 3 := by unfold tlv; rw [if_pos h7]
              exact good _ _ (by rw [e1]; exact Z1) (by rw [e1]; exact hE3) e2 (by omega)
            · have h77 : num f kb 3 = 7 + 0 := by omega
              have v7 : ¬ num f kb 3 < 7 := by omega
              rw [h77]
              have ones : ∀ (r j : Nat) (H3 : am_H), j + (r + 1) = 10 → ons f (kb + 3) 10 = j + ons f (kb + 3 + j) (r + 1) → rdH h H3 (mO ct md to bl co cp (kb + 3 + j) en 0 tc) g gc ga' → kb + 3 + j ≤ en → am_At l D dA m_X10_small d 0 0 0 0 n0 none (am_qv fun h' => trP h h' (fun bi fa => (mO ct md to bl co cp bi en fa tc)) gl gc ga t en ((if R.1 = 0 then (if krf R.2.2 (sym t) = 65536 then 0 else 2) else R.1), R.2.1, (-1 : Int32), R.2.2)) 0 0 37 [some (am_r 46), some (.inl (nI t)), some (.inl (nI nb)), some (.inl (nI n)), some (.inl (nI i)), some (.inl (nI (7 + j)))] [] H3 := by
                intro r
                induction r with
                | zero =>
                  intro j H3 hj ho Z5 hk5
                  refine am_aload_n dX10_small_37 rfl rfl ?_
                  refine am_get f_X10_73 dX10_small_38 rfl Z5.2.1 rfl ?_
                  refine am_nif_ne 71 dX10_small_41 rfl rfl (by omega) (fun h41 => ?_) (fun h41 => ?_)
                  · omega
                  · refine am_aload_n dX10_small_44 rfl rfl ?_
                    refine am_iconst (v := nI 1) dX10_small_45 rfl (by decide +kernel) ?_
                    refine am_vi (t_X10_take (d - 1) _ Z5.2.1 ((Z5.tp (by simp)).trans hf) hE hk5 (n := 1) (by omega) (by omega)) k_X10_take l_X10_90 dX10_small_46 rfl rfl rfl rfl Z5.2.1 (by omega) (Nat.le_refl _) (Nat.le_refl _) (fun z h5 hx => ?_)
                    obtain ⟨hw1, hw2⟩ := hx
                    by_cases hE5 : kb + 3 + j + 1 ≤ en
                    · obtain ⟨rfl, rfl⟩ := hw1 hE5
                      rw [num_1]
                      have hb := bt_lt f (kb + 3 + j)
                      have Z6 := Z5.m (mO ct md to bl co cp (kb + 3 + j + 1) en 0 tc)
                      refine am_iconst (v := nI 1) dX10_small_49 rfl (by decide +kernel) ?_
                      refine am_ncmp_ne 71 dX10_small_50 rfl rfl (by omega) (by omega) (fun hb1 => ?_) (fun hb1 => ?_)
                      · have ho0 : ons f (kb + 3) 10 = j := by rw [ho, ons_0 hb1]; omega
                        have e1 : tln f kb = 4 + j := by unfold tln; rw [if_neg v7, if_neg (by omega), ho0]
                        have e2 : tlv f kb = 7 + j := by unfold tlv; rw [if_neg v7, ho0]
                        exact good _ _ (by rw [e1, show kb + (4 + j) = kb + 3 + j + 1 by omega]; exact Z6) (by rw [e1]; omega) e2 (by omega)
                      · rw [ons_1 hb1] at ho
                        refine am_iinc (n := 1) dX10_small_53 rfl rfl (nI_1 (7 + j)) ?_
                        refine am_iload dX10_small_56 rfl rfl ?_
                        refine am_bipush (v := nI 16) dX10_small_58 rfl (by decide +kernel) ?_
                        refine am_ncmp_le 30 dX10_small_60 rfl rfl (by omega) (by omega) (fun h16 => ?_) (fun h16 => ?_)
                        · omega
                        · refine am_aload_n dX10_small_63 rfl rfl ?_
                          refine am_iconst (v := nI 2) dX10_small_64 rfl (by decide +kernel) ?_
                          refine am_vv (t_X10_fails (d - 1) _ Z6.2.1 (by omega) (v := 2)) k_X10_fails l_X10_86 dX10_small_65 rfl rfl rfl rfl Z6.2.1 (by omega) (Nat.le_refl _) (Nat.le_refl _) (fun h6 hx => ?_)
                          rw [if_pos rfl] at hx
                          subst hx
                          have Z7 := Z6.m (mO ct md to bl co cp (kb + 3 + j + 1) en 2 tc)
                          refine am_goto 30 dX10_small_68 rfl rfl ?_
                          refine am_iload dX10_small_30 rfl rfl ?_
                          refine am_bipush (v := nI 7) dX10_small_32 rfl (by decide +kernel) ?_
                          refine am_ncmp_lt 71 dX10_small_34 rfl rfl (by omega) (by omega) (fun h8 => by omega) (fun h8 => ?_)
                          refine am_aload_n dX10_small_37 rfl rfl ?_
                          refine am_get f_X10_73 dX10_small_38 rfl Z7.2.1 rfl ?_
                          refine am_nif_ne 71 dX10_small_41 rfl rfl (by omega) (fun h42 => ?_) (fun h42 => ?_)
                          · have ho0 : ons f (kb + 3) 10 = 10 := by rw [ho]; show j + (0 + 1) = 10; omega
                            have e1 : tln f kb = 13 := by unfold tln; rw [if_neg v7, if_pos ho0]
                            have e2 : tlv f kb = 17 := by unfold tlv; rw [if_neg v7, ho0]
                            rw [e1, e2, if_neg (by omega), if_pos (by omega)] at hR
                            exact fail 2 (kb + 13) _ _ (by rw [show kb + 13 = kb + 3 + j + 1 by omega]; exact Z7) hR (by omega) (by omega) (by omega)
                          · omega
                    · obtain ⟨rfl, rfl⟩ := hw2 (by omega)
                      rw [show en - (kb + 3 + j) = 0 by omega]
                      have Z6 := Z5.m (mO ct md to bl co cp en en 1 tc)
                      rw [show num f (kb + 3 + j) 0 = 0 from rfl]
                      refine am_iconst (v := nI 1) dX10_small_49 rfl (by decide +kernel) ?_
                      refine am_ncmp_ne 71 dX10_small_50 rfl rfl (by omega) (by omega) (fun hb1 => ?_) (fun hb1 => ?_)
                      · have e1 : kb + 3 + j + 1 ≤ kb + tln f kb := by
                          unfold tln
                          rw [if_neg v7]
                          split <;> omega
                        rw [if_pos (by omega)] at hR
                        exact fail 1 en _ _ Z6 hR (Nat.le_refl _) (by omega) (by omega)
                      · omega
                | succ r ihr =>
                  intro j H3 hj ho Z5 hk5
                  refine am_aload_n dX10_small_37 rfl rfl ?_
                  refine am_get f_X10_73 dX10_small_38 rfl Z5.2.1 rfl ?_
                  refine am_nif_ne 71 dX10_small_41 rfl rfl (by omega) (fun h41 => ?_) (fun h41 => ?_)
                  · omega
                  · refine am_aload_n dX10_small_44 rfl rfl ?_
                    refine am_iconst (v := nI 1) dX10_small_45 rfl (by decide +kernel) ?_
                    refine am_vi (t_X10_take (d - 1) _ Z5.2.1 ((Z5.tp (by simp)).trans hf) hE hk5 (n := 1) (by omega) (by omega)) k_X10_take l_X10_90 dX10_small_46 rfl rfl rfl rfl Z5.2.1 (by omega) (Nat.le_refl _) (Nat.le_refl _) (fun z h5 hx => ?_)
                    obtain ⟨hw1, hw2⟩ := hx
                    by_cases hE5 : kb + 3 + j + 1 ≤ en
                    · obtain ⟨rfl, rfl⟩ := hw1 hE5
                      rw [num_1]
                      have hb := bt_lt f (kb + 3 + j)
                      have Z6 := Z5.m (mO ct md to bl co cp (kb + 3 + j + 1) en 0 tc)
                      refine am_iconst (v := nI 1) dX10_small_49 rfl (by decide +kernel) ?_
                      refine am_ncmp_ne 71 dX10_small_50 rfl rfl (by omega) (by omega) (fun hb1 => ?_) (fun hb1 => ?_)
                      · have ho0 : ons f (kb + 3) 10 = j := by rw [ho, ons_0 hb1]; omega
                        have e1 : tln f kb = 4 + j := by unfold tln; rw [if_neg v7, if_neg (by omega), ho0]
                        have e2 : tlv f kb = 7 + j := by unfold tlv; rw [if_neg v7, ho0]
                        exact good _ _ (by rw [e1, show kb + (4 + j) = kb + 3 + j + 1 by omega]; exact Z6) (by rw [e1]; omega) e2 (by omega)
                      · rw [ons_1 hb1] at ho
                        refine am_iinc (n := 1) dX10_small_53 rfl rfl (nI_1 (7 + j)) ?_
                        refine am_iload dX10_small_56 rfl rfl ?_
                        refine am_bipush (v := nI 16) dX10_small_58 rfl (by decide +kernel) ?_
                        refine am_ncmp_le 30 dX10_small_60 rfl rfl (by omega) (by omega) (fun h16 => ?_) (fun h16 => ?_)
                        · refine am_iload dX10_small_30 rfl rfl ?_
                          refine am_bipush (v := nI 7) dX10_small_32 rfl (by decide +kernel) ?_
                          refine am_ncmp_lt 71 dX10_small_34 rfl rfl (by omega) (by omega) (fun h8 => by omega) (fun h8 => ?_)
                          exact ihr (j + 1) _ (by omega) (by rw [ho, show kb + 3 + (j + 1) = kb + 3 + j + 1 by omega]; omega) (by rw [show kb + 3 + (j + 1) = kb + 3 + j + 1 by omega]; exact Z6) (by omega)
                        · omega
                    · obtain ⟨rfl, rfl⟩ := hw2 (by omega)
                      rw [show en - (kb + 3 + j) = 0 by omega]
                      have Z6 := Z5.m (mO ct md to bl co cp en en 1 tc)
                      rw [show num f (kb + 3 + j) 0 = 0 from rfl]
                      refine am_iconst (v := nI 1) dX10_small_49 rfl (by decide +kernel) ?_
                      refine am_ncmp_ne 71 dX10_small_50 rfl rfl (by omega) (by omega) (fun hb1 => ?_) (fun hb1 => ?_)
                      · have e1 : kb + 3 + j + 1 ≤ kb + tln f kb := by
                          unfold tln
                          rw [if_neg v7]
                          split <;> omega
                        rw [if_pos (by omega)] at hR
                        exact fail 1 en _ _ Z6 hR (Nat.le_refl _) (by omega) (by omega)
                      · omega
              exact ones 9 0 _ rfl (by rw [Nat.zero_add]) Z1 hE3
          · obtain ⟨rfl, rfl⟩ := hx2 (by omega)
            have Z1 := Z.m (mO ct md to bl co cp en en 1 tc)
            have hnl := num_lt f kb (en - kb)
            have pp : 2 ^ (en - kb) ≤ 2 ^ 3 := Nat.pow_le_pow_right (by omega) (by omega)
            have e1 : 3 ≤ tln f kb := by unfold tln; split; omega; split <;> omega
            rw [if_pos (by omega)] at hR
            refine am_istore dX10_small_28 rfl rfl ?_
            refine am_iload dX10_small_30 rfl rfl ?_
            refine am_bipush (v := nI 7) dX10_small_32 rfl (by decide +kernel) ?_
            refine am_ncmp_lt 71 dX10_small_34 rfl rfl (by omega) (by omega) (fun h7 => ?_) (fun h7 => ?_)
            · exact fail 1 en _ _ Z1 hR (Nat.le_refl _) (by omega) (by omega)
            · refine am_aload_n dX10_small_37 rfl rfl ?_
              refine am_get f_X10_73 dX10_small_38 rfl Z1.2.1 rfl ?_
              refine am_nif_ne 71 dX10_small_41 rfl rfl (by omega) (fun h41 => ?_) (fun h41 => ?_)
              · exact fail 1 en _ _ Z1 hR (Nat.le_refl _) (by omega) (by omega)
              · omega
  exact loop n 0 (bi + nb) (fun _ => 0) gl H0 _ (by omega) (by omega) Y eR.symm (fun s hs => ⟨hz s hs, Nat.zero_le _⟩) (fun j _ => rfl) a1
end MOD3
