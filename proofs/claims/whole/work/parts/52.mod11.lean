/-! ===== the reference: merge ===== -/
section MOD11
variable {l : Launch} {D : va_G} {dA : Bool → ClassId}
theorem ss_mem (g : Nat → Nat) {N i : Nat} (h : i < N) : g i ≤ ss g 0 N := by
  have := ss_upd g 0 h
  omega
theorem dpF_le (up : Nat → Nat) : ∀ N v, dpF up N v ≤ N
  | 0, _ => Nat.le_refl _
  | N + 1, v => by
    have := dpF_le up N (up v)
    show (if up v = 0 then 0 else dpF up N (up v) + 1) ≤ N + 1
    split <;> omega
theorem nar_bz (b : Bool) : vp_nar .boolean (am_bz b) = am_bz b := by cases b <;> decide +kernel
/-- the last symbol that is used -/
def las (w : Nat → Nat) : Nat → Nat
  | 0 => 0
  | i + 1 => if 0 < w i then i else las w i
theorem las_ok (w : Nat → Nat) : ∀ i, ((srtS w i).2 = 0 → las w i = 0) ∧ (0 < (srtS w i).2 → las w i < i ∧ 0 < w (las w i))
  | 0 => ⟨fun _ => rfl, fun h => absurd h (Nat.lt_irrefl 0)⟩
  | i + 1 => by
    have ih := las_ok w i
    rw [srtS, las]
    by_cases g : 0 < w i
    · rw [if_pos g, if_pos g]
      exact ⟨fun h => absurd h (Nat.succ_ne_zero _), fun _ => ⟨Nat.lt_succ_self i, g⟩⟩
    · rw [if_neg g, if_neg g]
      exact ⟨ih.1, fun h => ⟨Nat.lt_succ_of_lt (ih.2 h).1, (ih.2 h).2⟩⟩
theorem hal_las {m : Nat} {w : Nat → Nat} (h : (srtS w m).2 < 2) : hal m w = nI (las w m) := by
  have o := las_ok w m
  unfold hal
  rw [if_neg (by omega)]
  by_cases z : (srtS w m).2 = 0
  · rw [if_pos z, o.1 z]
  · rw [if_neg z]
    obtain ⟨j, hj, e⟩ := (srd_all w m).2.2 (las w m) (o.2 (by omega)).1 (o.2 (by omega)).2
    rw [← e, show j = 0 by omega]
set_option maxHeartbeats 4000000 in
set_option maxRecDepth 100000 in
theorem t_X10_merge (d n0 : Nat) {h : am_H} {ct md : Nat} {to : Bool} {bl co cp bi en fa tc : Nat} (hm : h 46 = some (mO ct md to bl co cp bi en fa tc)) {t : Nat} (ht : t ≤ 2) {gl gc ga : Nat → Int32} (h49 : h 49 = some (.inl (false, 1800, gl))) (h50 : h 50 = some (.inl (false, 1800, gc))) (h51 : h 51 = some (.inl (false, 3, ga))) (h54 : ars h 54 1200) (h55 : ars h 55 1200) (h56 : ∃ f, h 56 = some (.inl (true, 1200, f))) {w : Nat → Nat} (h57 : nmA h 57 600 600 w) (hz : ∀ s, s < sym t → gl (600 * t + s) = nI 0) (hga : ga t = -1) (hW : ss w 0 (sym t) < 610) (hd : 2 ≤ d) : am_Ct l D dA m_X10_merge d 0 0 n0 [am_r 46, .inl (nI t)] h (am_qv fun h' => ∃ gl' gc' ga', am_fr h h' [49, 50, 51, 54, 55, 56] ∧ h' 49 = some (.inl (false, 1800, gl')) ∧ h' 50 = some (.inl (false, 1800, gc')) ∧ h' 51 = some (.inl (false, 3, ga')) ∧ (∀ j, (∀ s, s < sym t → j ≠ 600 * t + s) → gl' j = gl j ∧ gc' j = gc j) ∧ (∀ j, j ≠ t → ga' j = ga j) ∧ mrd gl' gc' ga' t (hal (sym t) w) (hlen (sym t) w) ∧ ars h' 54 1200 ∧ ars h' 55 1200 ∧ ∃ f, h' 56 = some (.inl (true, 1200, f))) := by
  refine am_Cv (by decide +kernel) rfl rfl ?_
  have hsy := sym_le t
  obtain ⟨gw0, h54⟩ := h54
  obtain ⟨gv0, h55⟩ := h55
  obtain ⟨gb0, h56⟩ := h56
  obtain ⟨gt, h57, hgt⟩ := h57
  have hwb : ∀ k, k < sym t → w k < 610 := fun k hk => Nat.lt_of_le_of_lt (ss_mem w hk) hW
  have hsr := srd_all w (sym t)
  obtain ⟨m, em⟩ : ∃ m, m = sym t := ⟨_, rfl⟩
  refine am_iload_n dX10_merge_0 rfl rfl ?_
  refine am_si (t_X10_symbols (d - 1) _ ht) k_X10_symbols l_X10_79 dX10_merge_1 rfl rfl rfl rfl (by omega) (Nat.le_refl _) (Nat.le_refl _) (fun x h1 hx => ?_)
  obtain ⟨rfl, hh⟩ := hx
  obtain rfl := hh.symm
  rw [← em] at hsy hz hW hwb hsr ⊢
  refine am_istore_n dX10_merge_4 rfl rfl ?_
  refine am_iconst (v := nI 0) dX10_merge_5 rfl (by decide +kernel) ?_
  refine am_istore_n dX10_merge_6 rfl rfl ?_
  refine am_iconst (v := nI 0) dX10_merge_7 rfl (by decide +kernel) ?_
  refine am_istore dX10_merge_8 rfl rfl ?_
  refine am_iconst (v := nI 0) dX10_merge_10 rfl (by decide +kernel) ?_
  refine am_istore dX10_merge_11 rfl rfl ?_
  have hsrl := srtS_le w m
  have hsrt : ∀ j, j < (srtS w m).2 → (srtS w m).1 j < m := srtS_lt w m
  obtain ⟨lv, elv⟩ : ∃ lv, lv = (srtS w m).1 := ⟨_, rfl⟩
  obtain ⟨c, ec⟩ : ∃ c, c = (srtS w m).2 := ⟨_, rfl⟩
  have hW2 : SS lv w c 0 m m < 610 := by rw [elv, ec, srt_SS]; exact hW
  have hK : mqK m lv c w := by
    rw [elv, ec]
    exact mqK_of (by omega) hsr (fun k hk => by have := hwb k hk; omega) (by rw [srt_SS]; omega)
  have hIN := fun (j : Nat) (hj : j < c) => INV_all (m := m) (lv := lv) (c := c) (w0 := w) (by omega) (by rw [elv, ec]; exact hsr) j hj
  rw [← elv, ← ec] at hsr hsrt
  rw [← ec] at hsrl
  have third : ∀ (up : Nat → Nat), 2 ≤ c → (mqS m lv c w (c - 1)).2.2.2 = up → ∀ (q s : Nat) (H : am_H) (gw gv gb g : Nat → Int32) (x3 x4 x5 x7 x8 : Option am_V), s + q = m → am_fr h H [49, 50, 51, 54, 55, 56] → H 54 = some (.inl (false, 1200, gw)) → H 55 = some (.inl (false, 1200, gv)) → H 56 = some (.inl (true, 1200, gb)) → H 49 = some (.inl (false, 1800, g)) → H 50 = some (.inl (false, 1800, gc)) → H 51 = some (.inl (false, 3, ga)) → (∀ k, k < m + (c - 1) → gv k = if up k = 0 then -1 else nI (up k)) → (∀ v, v < s → g (600 * t + v) = nI (hlen m w v)) → (∀ j, (∀ s, s < m → j ≠ 600 * t + s) → g j = gl j) → am_At l D dA m_X10_merge d 0 0 0 0 n0 none (am_qv fun h' => ∃ gl' gc' ga', am_fr h h' [49, 50, 51, 54, 55, 56] ∧ h' 49 = some (.inl (false, 1800, gl')) ∧ h' 50 = some (.inl (false, 1800, gc')) ∧ h' 51 = some (.inl (false, 3, ga')) ∧ (∀ j, (∀ s, s < m → j ≠ 600 * t + s) → gl' j = gl j ∧ gc' j = gc j) ∧ (∀ j, j ≠ t → ga' j = ga j) ∧ mrd gl' gc' ga' t (hal (m) w) (hlen (m) w) ∧ ars h' 54 1200 ∧ ars h' 55 1200 ∧ ∃ f, h' 56 = some (.inl (true, 1200, f))) 0 0 242 [some (am_r 46), some (.inl (nI t)), some (.inl (nI m)), x3, x4, x5, some (.inl (nI s)), x7, x8] [] H := by
    intro up hc2 eup
    have T := tre_of (m := m) (lv := lv) (c := c) (w0 := w) (by omega) hsr hc2
    rw [eup] at T
    have hu : ∀ v, up v ≠ 0 → v < up v ∧ up v < m + (c - 1) := fun v hv => ⟨(T.2.2.2.2.2.2.1 v hv).1, (T.2.2.2.2.2.2.1 v hv).2.2.1⟩
    have ehl : ∀ v, hlen m w v = if v < m ∧ 0 < w v then dpF up (m + (c - 1)) v else 0 := by
      intro v
      unfold hlen
      rw [← ec, if_pos hc2]
      unfold tln2 hup
      rw [← elv, ← ec, eup]
    have dpl : ∀ v, dpF up (m + (c - 1)) v ≤ m + (c - 1) := dpF_le up (m + (c - 1))
    intro q
    induction q with
    | zero =>
      intro s H gw gv gb g x3 x4 x5 x7 x8 hs F a4 a5 a6 a49 a50 a51 hgv hgl hgo
      obtain rfl : s = m := by omega
      have mH := (F 46 (by simp)).trans hm
      refine am_iload dX10_merge_242 rfl rfl ?_
      refine am_iload_n dX10_merge_244 rfl rfl ?_
      refine am_ncmp_ge 316 dX10_merge_245 rfl rfl (by omega) (by omega) (fun hc => ?_) (fun hc => ?_)
      · refine am_aload_n dX10_merge_316 rfl rfl ?_
        refine am_iload_n dX10_merge_317 rfl rfl ?_
        refine am_vv (t_X10_number (d - 1) _ mH ht a49 (len := hlen s w) (fun v hv => hgl v (by omega)) (fun v hv => by have := hlen_le (m := s) (w := w) (by omega) hW v; omega) a50 (by omega)) k_X10_number l_X10_94 dX10_merge_318 rfl rfl rfl rfl mH (by omega) (Nat.le_refl _) (Nat.le_refl _) (fun h1 hx => ?_)
        obtain ⟨gc', e1, c1, c2⟩ := hx
        rw [← em] at c1 c2
        refine am_rv dX10_merge_321 rfl rfl rfl ⟨g, gc', ga, by rw [e1]; exact F.set (by simp), by rw [e1]; exact (am_set_ne (by omega)).trans a49, by rw [e1]; exact am_set_eq, by rw [e1]; exact (am_set_ne (by omega)).trans a51, fun j hj => ⟨hgo j hj, c2 j hj⟩, fun j hj => rfl, ⟨?_, ?_, ?_, ?_⟩, ⟨gw, by rw [e1]; exact (am_set_ne (by omega)).trans a4⟩, ⟨gv, by rw [e1]; exact (am_set_ne (by omega)).trans a5⟩, ⟨gb, by rw [e1]; exact (am_set_ne (by omega)).trans a6⟩⟩
        · rw [hga]; unfold hal; rw [← ec, if_pos hc2]
        · rw [← em]; exact fun v hv => ⟨hgl v hv, by have := hlen_le (m := s) (w := w) (by omega) hW v; omega⟩
        · intro _
          rw [← em]
          refine ⟨?_, c1⟩
          have kr := tre_krf T (by omega) hc2 hsr hW2
          rw [show hlen s w = tln2 s w (s + (c - 1)) up from funext fun v => ehl v]
          exact kr
        · intro g0
          exact absurd (show hal s w = -1 by unfold hal; rw [← ec, if_pos hc2]) g0
      · omega
    | succ q ih =>
      intro s H gw gv gb g x3 x4 x5 x7 x8 hs F a4 a5 a6 a49 a50 a51 hgv hgl hgo
      have mH := (F 46 (by simp)).trans hm
      have tH := (F 57 (by simp)).trans h57
      refine am_iload dX10_merge_242 rfl rfl ?_
      refine am_iload_n dX10_merge_244 rfl rfl ?_
      refine am_ncmp_ge 316 dX10_merge_245 rfl rfl (by omega) (by omega) (fun hc => ?_) (fun hc => ?_)
      · omega
      · refine am_iconst (v := nI 0) dX10_merge_248 rfl (by decide +kernel) ?_
        refine am_istore dX10_merge_249 rfl rfl ?_
        refine am_iload dX10_merge_251 rfl rfl ?_
        refine am_istore dX10_merge_253 rfl rfl ?_
        have aft : ∀ (n k : Nat), n = dpF up (m + (c - 1)) s → am_At l D dA m_X10_merge d 0 0 0 0 n0 none (am_qv fun h' => ∃ gl' gc' ga', am_fr h h' [49, 50, 51, 54, 55, 56] ∧ h' 49 = some (.inl (false, 1800, gl')) ∧ h' 50 = some (.inl (false, 1800, gc')) ∧ h' 51 = some (.inl (false, 3, ga')) ∧ (∀ j, (∀ s, s < m → j ≠ 600 * t + s) → gl' j = gl j ∧ gc' j = gc j) ∧ (∀ j, j ≠ t → ga' j = ga j) ∧ mrd gl' gc' ga' t (hal (m) w) (hlen (m) w) ∧ ars h' 54 1200 ∧ ars h' 55 1200 ∧ ∃ f, h' 56 = some (.inl (true, 1200, f))) 0 0 281 [some (am_r 46), some (.inl (nI t)), some (.inl (nI m)), x3, x4, x5, some (.inl (nI s)), some (.inl (nI n)), some (.inl (nI k))] [] H := by
          intro n k hn
          refine am_aload_n dX10_merge_281 rfl rfl ?_
          refine am_get f_X10_16 dX10_merge_282 rfl mH rfl ?_
          refine am_sipush (v := nI 600) dX10_merge_285 rfl (by decide +kernel) ?_
          refine am_iload_n dX10_merge_288 rfl rfl ?_
          refine am_imul dX10_merge_289 rfl ?_
          refine am_iload dX10_merge_290 rfl rfl ?_
          refine am_iadd dX10_merge_292 rfl ?_
          rw [pk_mul, nI_add]
          refine am_aload_n dX10_merge_293 rfl rfl ?_
          refine am_get f_X10_41 dX10_merge_294 rfl mH rfl ?_
          refine am_iload dX10_merge_297 rfl rfl ?_
          refine am_iald dX10_merge_299 rfl tH (by omega) (by omega) ?_
          rw [hgt s (by omega)]
          have hws := hwb s (by omega)
          refine am_nif_le 308 dX10_merge_300 rfl rfl (by omega) (fun hw0 => ?_) (fun hw0 => ?_)
          · refine am_iconst (v := nI 0) dX10_merge_308 rfl (by decide +kernel) ?_
            refine am_iast dX10_merge_309 rfl a49 (by omega) (by omega) ?_
            refine am_iinc (n := 1) dX10_merge_310 rfl rfl (nI_1 s) ?_
            refine am_goto 242 dX10_merge_313 rfl rfl ?_
            refine ih (s + 1) _ gw gv gb _ _ _ _ _ _ (by omega) (F.set (by simp)) ((am_set_ne (by omega)).trans a4) ((am_set_ne (by omega)).trans a5) ((am_set_ne (by omega)).trans a6) am_set_eq ((am_set_ne (by omega)).trans a50) ((am_set_ne (by omega)).trans a51) hgv (fun v hv => ?_) (fun j hj => by rw [upd_ne (hj s (by omega))]; exact hgo j hj)
            by_cases e : v = s
            · subst e; rw [upd_eq, ehl, if_neg (by omega)]
            · rw [upd_ne (by omega)]; exact hgl v (by omega)
          · refine am_iload dX10_merge_303 rfl rfl ?_
            refine am_goto 309 dX10_merge_305 rfl rfl ?_
            refine am_iast dX10_merge_309 rfl a49 (by omega) (by omega) ?_
            refine am_iinc (n := 1) dX10_merge_310 rfl rfl (nI_1 s) ?_
            refine am_goto 242 dX10_merge_313 rfl rfl ?_
            refine ih (s + 1) _ gw gv gb _ _ _ _ _ _ (by omega) (F.set (by simp)) ((am_set_ne (by omega)).trans a4) ((am_set_ne (by omega)).trans a5) ((am_set_ne (by omega)).trans a6) am_set_eq ((am_set_ne (by omega)).trans a50) ((am_set_ne (by omega)).trans a51) hgv (fun v hv => ?_) (fun j hj => by rw [upd_ne (hj s (by omega))]; exact hgo j hj)
            by_cases e : v = s
            · subst e; rw [upd_eq, ehl, if_pos ⟨by omega, hw0⟩, hn]
            · rw [upd_ne (by omega)]; exact hgl v (by omega)
        have walk : ∀ (r k n : Nat), m + (c - 1) ≤ k + r → k < m + (c - 1) → n + dpF up (m + (c - 1)) k = dpF up (m + (c - 1)) s → am_At l D dA m_X10_merge d 0 0 0 0 n0 none (am_qv fun h' => ∃ gl' gc' ga', am_fr h h' [49, 50, 51, 54, 55, 56] ∧ h' 49 = some (.inl (false, 1800, gl')) ∧ h' 50 = some (.inl (false, 1800, gc')) ∧ h' 51 = some (.inl (false, 3, ga')) ∧ (∀ j, (∀ s, s < m → j ≠ 600 * t + s) → gl' j = gl j ∧ gc' j = gc j) ∧ (∀ j, j ≠ t → ga' j = ga j) ∧ mrd gl' gc' ga' t (hal (m) w) (hlen (m) w) ∧ ars h' 54 1200 ∧ ars h' 55 1200 ∧ ∃ f, h' 56 = some (.inl (true, 1200, f))) 0 0 255 [some (am_r 46), some (.inl (nI t)), some (.inl (nI m)), x3, x4, x5, some (.inl (nI s)), some (.inl (nI n)), some (.inl (nI k))] [] H := by
          intro r
          induction r with
          | zero => intro k n hr hk hn; omega
          | succ r ihr =>
            intro k n hr hk hn
            have d1 := dpl s
            have gk := hgv k hk
            refine am_aload_n dX10_merge_255 rfl rfl ?_
            refine am_get f_X10_34 dX10_merge_256 rfl mH rfl ?_
            refine am_iload dX10_merge_259 rfl rfl ?_
            refine am_iald dX10_merge_261 rfl a5 (by omega) (by omega) ?_
            rw [gk]
            by_cases hk0 : up k = 0
            · rw [if_pos hk0]
              refine am_iconst (v := -1) dX10_merge_262 rfl (by decide +kernel) ?_
              refine am_icmp_eq 281 dX10_merge_263 rfl rfl (fun hq => ?_) (fun hq => ?_)
              · rw [dpF_0 hk0] at hn
                exact aft n k (by omega)
              · exact absurd rfl hq
            · rw [if_neg hk0]
              have hu1 := hu k hk0
              refine am_iconst (v := -1) dX10_merge_262 rfl (by decide +kernel) ?_
              refine am_icmp_eq 281 dX10_merge_263 rfl rfl (fun hq => ?_) (fun hq => ?_)
              · exact absurd hq (am_nm1 (by omega))
              · refine am_iinc (n := 1) dX10_merge_266 rfl rfl (nI_1 n) ?_
                refine am_aload_n dX10_merge_269 rfl rfl ?_
                refine am_get f_X10_34 dX10_merge_270 rfl mH rfl ?_
                refine am_iload dX10_merge_273 rfl rfl ?_
                refine am_iald dX10_merge_275 rfl a5 (by omega) (by omega) ?_
                rw [gk, if_neg hk0]
                refine am_istore dX10_merge_276 rfl rfl ?_
                refine am_goto 255 dX10_merge_278 rfl rfl ?_
                rw [dpF_up hu hk0] at hn
                exact ihr (up k) (n + 1) (by omega) hu1.2 (by omega)
        exact walk (m + (c - 1)) s 0 (by omega) (by omega) (by omega)
  have second : ∀ (q j nl nm : Nat) (wj up : Nat → Nat) (H : am_H) (gw gv gb : Nat → Int32) (act : Nat → Bool) (x4 x7 x8 : Option am_V), 2 ≤ c → j + 1 + q = c → mqS m lv c w j = (nl, nm, wj, up) → am_fr h H [49, 50, 51, 54, 55, 56] → H 54 = some (.inl (false, 1200, gw)) → H 55 = some (.inl (false, 1200, gv)) → H 56 = some (.inl (true, 1200, gb)) → H 49 = some (.inl (false, 1800, gl)) → H 50 = some (.inl (false, 1800, gc)) → H 51 = some (.inl (false, 3, ga)) → (∀ k, k < m + j → gw k = nI (wj k)) → (∀ k, k < m + m → gv k = if up k = 0 then -1 else nI (up k)) → (∀ k, k < m + j → gb k = am_bz (act k)) → (∀ k, k < m + j → (act k = true ↔ Ac lv c nl nm (m + j) k)) → am_At l D dA m_X10_merge d 0 0 0 0 n0 none (am_qv fun h' => ∃ gl' gc' ga', am_fr h h' [49, 50, 51, 54, 55, 56] ∧ h' 49 = some (.inl (false, 1800, gl')) ∧ h' 50 = some (.inl (false, 1800, gc')) ∧ h' 51 = some (.inl (false, 3, ga')) ∧ (∀ j, (∀ s, s < m → j ≠ 600 * t + s) → gl' j = gl j ∧ gc' j = gc j) ∧ (∀ j, j ≠ t → ga' j = ga j) ∧ mrd gl' gc' ga' t (hal (m) w) (hlen (m) w) ∧ ars h' 54 1200 ∧ ars h' 55 1200 ∧ ∃ f, h' 56 = some (.inl (true, 1200, f))) 0 0 144 [some (am_r 46), some (.inl (nI t)), some (.inl (nI m)), some (.inl (nI c)), x4, some (.inl (nI (m + j))), some (.inl (nI (j + 1))), x7, x8] [] H := by
    intro q
    induction q with
    | zero =>
      intro j nl nm wj up H gw gv gb act x4 x7 x8 hc2 hj hS F a4 a5 a6 a49 a50 a51 hgw hgv hgb hact
      have mH := (F 46 (by simp)).trans hm
      refine am_iload dX10_merge_144 rfl rfl ?_
      refine am_iload_n dX10_merge_146 rfl rfl ?_
      refine am_ncmp_ge 239 dX10_merge_147 rfl rfl (by omega) (by omega) (fun hc => ?_) (fun hc => ?_)
      · refine am_iconst (v := nI 0) dX10_merge_239 rfl (by decide +kernel) ?_
        refine am_istore dX10_merge_240 rfl rfl ?_
        exact third up hc2 (by rw [show c - 1 = j by omega, hS]) m 0 H gw gv gb gl _ _ _ _ _ (by omega) F a4 a5 a6 a49 a50 a51 (fun k hk => hgv k (by omega)) (fun v hv => by omega) (fun j hj => rfl)
      · omega
    | succ q ih =>
      intro j nl nm wj up H gw gv gb act x4 x7 x8 hc2 hj hS F a4 a5 a6 a49 a50 a51 hgw hgv hgb hact
      have mH := (F 46 (by simp)).trans hm
      obtain ⟨ee, I, -⟩ := hIN j (by omega)
      have K := hK j (by omega) nl nm wj up hS
      rw [hS] at I
      dsimp only at I
      rcases h1 : tk lv wj c nl nm (m + j) with ⟨a, nl1, nm1⟩
      rcases h2 : tk lv wj c nl1 nm1 (m + j) with ⟨b, nl2, nm2⟩
      obtain ⟨s1, s2, s3, s4, s5, s6, s7, s8, s9, s10, s11⟩ := INV_S (by omega) I (by omega) h1 h2
      have hS2 : mqS m lv c w (j + 1) = (nl2, nm2, updN wj (m + j) (wj a + wj b), updN (updN up a (m + j)) b (m + j)) := by
        rw [mqS, hS]
        dsimp only
        rw [h1]
        dsimp only
        rw [h2]
      have hwl : ∀ k, k < m + j → wj k < 2 ^ 20 := K.2.2.1
      have x5 : True := trivial
      refine am_iload dX10_merge_144 rfl rfl ?_
      refine am_iload_n dX10_merge_146 rfl rfl ?_
      refine am_ncmp_ge 239 dX10_merge_147 rfl rfl (by omega) (by omega) (fun hc => ?_) (fun hc => ?_)
      · omega
      · refine am_aload_n dX10_merge_150 rfl rfl ?_
        refine am_iload dX10_merge_151 rfl rfl ?_
        refine am_vi (t_X10_least (d - 1) _ mH a4 a6 (w := wj) (act := act) (N := m + j) (a := a) (by omega) (fun k hk => ⟨hgw k hk, by have := hwl k hk; omega⟩) hgb ⟨s1, (hact a s1).mpr s6⟩ (fun v hv hav => s7 v ((hact v hv).mp hav))) k_X10_least l_X10_124 dX10_merge_153 rfl rfl rfl rfl mH (by omega) (Nat.le_refl _) (Nat.le_refl _) (fun z h3 hx => ?_)
        obtain ⟨rfl, hh⟩ := hx
        obtain rfl := hh.symm
        refine am_istore dX10_merge_156 rfl rfl ?_
        refine am_aload_n dX10_merge_158 rfl rfl ?_
        refine am_get f_X10_37 dX10_merge_159 rfl mH rfl ?_
        refine am_iload dX10_merge_162 rfl rfl ?_
        refine am_iconst (v := nI 0) dX10_merge_164 rfl (by decide +kernel) ?_
        refine am_zast dX10_merge_165 rfl a6 (by omega) (by omega) ?_
        rw [show nI 0 = am_bz false from rfl, nar_bz]
        obtain ⟨H1, eH1⟩ : ∃ H1, H1 = am_set H 56 (.inl (true, 1200, upd gb a (am_bz false))) := ⟨_, rfl⟩
        rw [← eH1]
        have F1 : am_fr h H1 [49, 50, 51, 54, 55, 56] := by rw [eH1]; exact F.set (by simp)
        have m1 := (F1 46 (by simp)).trans hm
        have b4 := (congrFun eH1 54).trans ((am_set_ne (by omega)).trans a4)
        have b5 := (congrFun eH1 55).trans ((am_set_ne (by omega)).trans a5)
        have b6 := (congrFun eH1 56).trans am_set_eq
        have b49 := (congrFun eH1 49).trans ((am_set_ne (by omega)).trans a49)
        have b50 := (congrFun eH1 50).trans ((am_set_ne (by omega)).trans a50)
        have b51 := (congrFun eH1 51).trans ((am_set_ne (by omega)).trans a51)
        clear eH1
        have hgb1 : ∀ k, k < m + j → upd gb a (am_bz false) k = am_bz (if k = a then false else act k) := fun k hk => by
          by_cases z : k = a
          · rw [z, upd_eq, if_pos rfl]
          · rw [upd_ne z, if_neg z]; exact hgb k hk
        refine am_aload_n dX10_merge_166 rfl rfl ?_
        refine am_iload dX10_merge_167 rfl rfl ?_
        refine am_vi (t_X10_least (d - 1) _ m1 b4 b6 (w := wj) (act := fun k => if k = a then false else act k) (N := m + j) (a := b) (by omega) (fun k hk => ⟨hgw k hk, by have := hwl k hk; omega⟩) hgb1 ⟨s4, by show (if b = a then false else act b) = true; rw [if_neg s8.2]; exact (hact b s4).mpr s8.1⟩ (fun v hv hav => by have hav : (if v = a then false else act v) = true := hav; by_cases z : v = a; (rw [if_pos z] at hav; cases hav); (rw [if_neg z] at hav; exact s9 v ((hact v hv).mp hav) z))) k_X10_least l_X10_124 dX10_merge_169 rfl rfl rfl rfl m1 (by omega) (Nat.le_refl _) (Nat.le_refl _) (fun z h3 hx => ?_)
        obtain ⟨rfl, hh⟩ := hx
        obtain rfl := hh.symm
        refine am_istore dX10_merge_172 rfl rfl ?_
        refine am_aload_n dX10_merge_174 rfl rfl ?_
        refine am_get f_X10_37 dX10_merge_175 rfl m1 rfl ?_
        refine am_iload dX10_merge_178 rfl rfl ?_
        refine am_iconst (v := nI 0) dX10_merge_180 rfl (by decide +kernel) ?_
        refine am_zast dX10_merge_181 rfl b6 (by omega) (by omega) ?_
        rw [show nI 0 = am_bz false from rfl, nar_bz]
        refine am_aload_n dX10_merge_182 rfl rfl ?_
        refine am_get f_X10_31 dX10_merge_183 rfl ((am_set_ne (by omega)).trans m1) rfl ?_
        refine am_iload dX10_merge_186 rfl rfl ?_
        refine am_aload_n dX10_merge_188 rfl rfl ?_
        refine am_get f_X10_31 dX10_merge_189 rfl ((am_set_ne (by omega)).trans m1) rfl ?_
        refine am_iload dX10_merge_192 rfl rfl ?_
        refine am_iald dX10_merge_194 rfl ((am_set_ne (by omega)).trans b4) (by omega) (by omega) ?_
        refine am_aload_n dX10_merge_195 rfl rfl ?_
        refine am_get f_X10_31 dX10_merge_196 rfl ((am_set_ne (by omega)).trans m1) rfl ?_
        refine am_iload dX10_merge_199 rfl rfl ?_
        refine am_iald dX10_merge_201 rfl ((am_set_ne (by omega)).trans b4) (by omega) (by omega) ?_
        refine am_iadd dX10_merge_202 rfl ?_
        rw [hgw a s1, hgw b s4, nI_add]
        refine am_iast dX10_merge_203 rfl ((am_set_ne (by omega)).trans b4) (by omega) (by omega) ?_
        refine am_aload_n dX10_merge_204 rfl rfl ?_
        refine am_get f_X10_34 dX10_merge_205 rfl ((am_set_ne (by omega)).trans ((am_set_ne (by omega)).trans m1)) rfl ?_
        refine am_iload dX10_merge_208 rfl rfl ?_
        refine am_iload dX10_merge_210 rfl rfl ?_
        refine am_iast dX10_merge_212 rfl ((am_set_ne (by omega)).trans ((am_set_ne (by omega)).trans b5)) (by omega) (by omega) ?_
        refine am_aload_n dX10_merge_213 rfl rfl ?_
        refine am_get f_X10_34 dX10_merge_214 rfl ((am_set_ne (by omega)).trans ((am_set_ne (by omega)).trans ((am_set_ne (by omega)).trans m1))) rfl ?_
        refine am_iload dX10_merge_217 rfl rfl ?_
        refine am_iload dX10_merge_219 rfl rfl ?_
        refine am_iast dX10_merge_221 rfl am_set_eq (by omega) (by omega) ?_
        refine am_aload_n dX10_merge_222 rfl rfl ?_
        refine am_get f_X10_37 dX10_merge_223 rfl ((am_set_ne (by omega)).trans ((am_set_ne (by omega)).trans ((am_set_ne (by omega)).trans ((am_set_ne (by omega)).trans m1)))) rfl ?_
        refine am_iload dX10_merge_226 rfl rfl ?_
        refine am_iconst (v := nI 1) dX10_merge_228 rfl (by decide +kernel) ?_
        refine am_zast dX10_merge_229 rfl ((am_set_ne (by omega)).trans ((am_set_ne (by omega)).trans ((am_set_ne (by omega)).trans am_set_eq))) (by omega) (by omega) ?_
        rw [show nI 1 = am_bz true from rfl, nar_bz]
        refine am_iinc (n := 1) dX10_merge_230 rfl rfl (nI_1 (m + j)) ?_
        refine am_iinc (n := 1) dX10_merge_233 rfl rfl (nI_1 (j + 1)) ?_
        refine am_goto 144 dX10_merge_236 rfl rfl ?_
        refine ih (j + 1) nl2 nm2 _ _ _ (upd gw (m + j) (nI (wj a + wj b))) (upd (upd gv a (nI (m + j))) b (nI (m + j))) (upd (upd (upd gb a (am_bz false)) b (am_bz false)) (m + j) (am_bz true)) (fun k => if k = m + j then true else if k = b then false else if k = a then false else act k) _ _ _ hc2 (by omega) hS2 (((((F1.set (by simp)).set (by simp)).set (by simp)).set (by simp)).set (by simp)) ?_ ?_ ?_ ?_ ?_ ?_ (fun k hk => ?_) (fun k hk => ?_) (fun k hk => ?_) (fun k hk => ?_)
        · exact (am_set_ne (by omega)).trans ((am_set_ne (by omega)).trans ((am_set_ne (by omega)).trans am_set_eq))
        · exact (am_set_ne (by omega)).trans am_set_eq
        · exact am_set_eq
        · exact (am_set_ne (by omega)).trans ((am_set_ne (by omega)).trans ((am_set_ne (by omega)).trans ((am_set_ne (by omega)).trans ((am_set_ne (by omega)).trans b49))))
        · exact (am_set_ne (by omega)).trans ((am_set_ne (by omega)).trans ((am_set_ne (by omega)).trans ((am_set_ne (by omega)).trans ((am_set_ne (by omega)).trans b50))))
        · exact (am_set_ne (by omega)).trans ((am_set_ne (by omega)).trans ((am_set_ne (by omega)).trans ((am_set_ne (by omega)).trans ((am_set_ne (by omega)).trans b51))))
        · by_cases z : k = m + j
          · rw [z, upd_eq, updN_eq]
          · rw [upd_ne z, updN_ne z]; exact hgw k (by omega)
        · by_cases zb : k = b
          · rw [zb, upd_eq, updN_eq, if_neg (by omega)]
          · rw [upd_ne zb, updN_ne zb]
            by_cases za : k = a
            · rw [za, upd_eq, updN_eq, if_neg (by omega)]
            · rw [upd_ne za, updN_ne za]; exact hgv k hk
        · by_cases z : k = m + j
          · rw [z, upd_eq, if_pos rfl]
          · rw [upd_ne z, if_neg z]
            by_cases zb : k = b
            · rw [zb, upd_eq, if_pos rfl]
            · rw [upd_ne zb, if_neg zb]; exact hgb1 k (by omega)
        · show (if k = m + j then true else if k = b then false else if k = a then false else act k) = true ↔ _
          rw [← Nat.add_assoc, Ac_succ s5]
          by_cases z : k = m + j
          · rw [if_pos z]; exact ⟨fun _ => Or.inr z, fun _ => rfl⟩
          · rw [if_neg z, s10 k]
            by_cases zb : k = b
            · rw [if_pos zb]; exact ⟨fun q => by (cases q), fun q => by rcases q with q | q; exact absurd zb q.2.2; exact absurd q z⟩
            · rw [if_neg zb]
              by_cases za : k = a
              · rw [if_pos za]; exact ⟨fun q => by (cases q), fun q => by rcases q with q | q; exact absurd za q.2.1; exact absurd q z⟩
              · rw [if_neg za, hact k (by omega)]
                exact ⟨fun q => Or.inl ⟨q, za, zb⟩, fun q => by rcases q with q | q; exact q.1; exact absurd q z⟩
  have first : ∀ (q s : Nat) (H : am_H) (gw gv gb : Nat → Int32) (x6 x7 x8 : Option am_V), s + q = m + m → am_fr h H [54, 55, 56] → H 54 = some (.inl (false, 1200, gw)) → H 55 = some (.inl (false, 1200, gv)) → H 56 = some (.inl (true, 1200, gb)) → (∀ k, k < s → gw k = nI (if k < m then w k else 0)) → (∀ k, k < s → gv k = -1) → (∀ k, k < s → gb k = am_bz (decide (k < m ∧ 0 < w k))) → am_At l D dA m_X10_merge d 0 0 0 0 n0 none (am_qv fun h' => ∃ gl' gc' ga', am_fr h h' [49, 50, 51, 54, 55, 56] ∧ h' 49 = some (.inl (false, 1800, gl')) ∧ h' 50 = some (.inl (false, 1800, gc')) ∧ h' 51 = some (.inl (false, 3, ga')) ∧ (∀ j, (∀ s, s < m → j ≠ 600 * t + s) → gl' j = gl j ∧ gc' j = gc j) ∧ (∀ j, j ≠ t → ga' j = ga j) ∧ mrd gl' gc' ga' t (hal (m) w) (hlen (m) w) ∧ ars h' 54 1200 ∧ ars h' 55 1200 ∧ ∃ f, h' 56 = some (.inl (true, 1200, f))) 0 0 13 [some (am_r 46), some (.inl (nI t)), some (.inl (nI m)), some (.inl (nI (srtS w (min s m)).2)), some (.inl (nI (las w (min s m)))), some (.inl (nI s)), x6, x7, x8] [] H := by
    intro q
    induction q with
    | zero =>
      intro s H gw gv gb x6 x7 x8 hs F a4 a5 a6 hgw hgv hgb
      rw [show min s m = m by omega, ← ec]
      have mH := (F 46 (by simp)).trans hm
      refine am_iload dX10_merge_13 rfl rfl ?_
      refine am_iconst (v := nI 2) dX10_merge_15 rfl (by decide +kernel) ?_
      refine am_iload_n dX10_merge_16 rfl rfl ?_
      refine am_imul dX10_merge_17 rfl ?_
      rw [pk_mul]
      refine am_ncmp_ge 124 dX10_merge_18 rfl rfl (by omega) (by omega) (fun hc => ?_) (fun hc => ?_)
      · refine am_iload_n dX10_merge_124 rfl rfl ?_
        refine am_iconst (v := nI 2) dX10_merge_125 rfl (by decide +kernel) ?_
        refine am_ncmp_ge 138 dX10_merge_126 rfl rfl (by omega) (by omega) (fun hu => ?_) (fun hu => ?_)
        · refine am_iload_n dX10_merge_138 rfl rfl ?_
          refine am_istore dX10_merge_139 rfl rfl ?_
          refine am_iconst (v := nI 1) dX10_merge_141 rfl (by decide +kernel) ?_
          refine am_istore dX10_merge_142 rfl rfl ?_
          refine am_eq rfl rfl rfl rfl (second (c - 1) 0 0 m w (fun _ => 0) H gw gv gb (fun k => decide (k < m ∧ 0 < w k)) _ _ _ hu (by omega) rfl (F.mono (by simp)) a4 a5 a6 ((F 49 (by simp)).trans h49) ((F 50 (by simp)).trans h50) ((F 51 (by simp)).trans h51) (fun k hk => by rw [hgw k (by omega), if_pos (by omega)]) (fun k hk => by rw [hgv k (by omega), if_pos rfl]) (fun k hk => hgb k (by omega)) (fun k hk => ?_))
          rw [decide_eq_true_iff]
          constructor
          · intro ⟨q1, q2⟩
            obtain ⟨i, hi, e⟩ := hsr.2.2 k q1 q2
            exact Or.inl ⟨i, Nat.zero_le _, hi, e.symm⟩
          · rintro (⟨i, -, hi, rfl⟩ | ⟨q1, q2⟩)
            · exact hsr.1 i hi
            · omega
        · have lo := las_ok w m
          rw [← ec] at lo
          have ha : hal m w = nI (las w m) := hal_las (by omega)
          have hh0 : ∀ v, hlen m w v = 0 := fun v => by unfold hlen; rw [← ec, if_neg (by omega)]
          have lm : las w m < m := by
            by_cases z : c = 0
            · rw [lo.1 z]; omega
            · exact (lo.2 (by omega)).1
          refine am_aload_n dX10_merge_129 rfl rfl ?_
          refine am_get f_X10_22 dX10_merge_130 rfl mH rfl ?_
          refine am_iload_n dX10_merge_133 rfl rfl ?_
          refine am_iload dX10_merge_134 rfl rfl ?_
          refine am_iast dX10_merge_136 rfl ((F 51 (by simp)).trans h51) (by omega) (by omega) ?_
          refine am_rv dX10_merge_137 rfl rfl rfl ⟨gl, gc, upd ga t (nI (las w m)), (F.mono (by simp)).set (by simp), (am_set_ne (by omega)).trans ((F 49 (by simp)).trans h49), (am_set_ne (by omega)).trans ((F 50 (by simp)).trans h50), am_set_eq, fun j hj => ⟨rfl, rfl⟩, fun j hj => upd_ne hj, ⟨by rw [upd_eq, ha], ?_, fun q => absurd (ha.symm.trans q) (am_nm1 (by omega)), fun _ => ⟨las w m, by rw [← em]; exact lm, ha⟩⟩, ⟨gw, (am_set_ne (by omega)).trans a4⟩, ⟨gv, (am_set_ne (by omega)).trans a5⟩, ⟨gb, (am_set_ne (by omega)).trans a6⟩⟩
          rw [← em]
          exact fun v hv => by rw [hh0 v]; exact ⟨hz v hv, Nat.zero_le _⟩
      · omega
    | succ q ih =>
      intro s H gw gv gb x6 x7 x8 hs F a4 a5 a6 hgw hgv hgb
      have mH := (F 46 (by simp)).trans hm
      have tH := (F 57 (by simp)).trans h57
      refine am_iload dX10_merge_13 rfl rfl ?_
      refine am_iconst (v := nI 2) dX10_merge_15 rfl (by decide +kernel) ?_
      refine am_iload_n dX10_merge_16 rfl rfl ?_
      refine am_imul dX10_merge_17 rfl ?_
      rw [pk_mul]
      refine am_ncmp_ge 124 dX10_merge_18 rfl rfl (by omega) (by omega) (fun hc => ?_) (fun hc => ?_)
      · omega
      · have aft : ∀ (v : Nat) (bb : Bool) (gw1 gv1 gb1 : Nat → Int32) (H1 : am_H), am_fr h H1 [54, 55, 56] → H1 54 = some (.inl (false, 1200, gw1)) → H1 55 = some (.inl (false, 1200, gv1)) → H1 56 = some (.inl (true, 1200, gb1)) → gb1 s = am_bz bb → bb = decide (s < m ∧ 0 < w s) → (∀ k, k < s + 1 → gw1 k = nI (if k < m then w k else 0)) → (∀ k, k < s + 1 → gv1 k = -1) → (∀ k, k < s + 1 → gb1 k = am_bz (decide (k < m ∧ 0 < w k))) → am_At l D dA m_X10_merge d 0 0 0 0 n0 none (am_qv fun h' => ∃ gl' gc' ga', am_fr h h' [49, 50, 51, 54, 55, 56] ∧ h' 49 = some (.inl (false, 1800, gl')) ∧ h' 50 = some (.inl (false, 1800, gc')) ∧ h' 51 = some (.inl (false, 3, ga')) ∧ (∀ j, (∀ s, s < m → j ≠ 600 * t + s) → gl' j = gl j ∧ gc' j = gc j) ∧ (∀ j, j ≠ t → ga' j = ga j) ∧ mrd gl' gc' ga' t (hal (m) w) (hlen (m) w) ∧ ars h' 54 1200 ∧ ars h' 55 1200 ∧ ∃ f, h' 56 = some (.inl (true, 1200, f))) 0 0 81 [some (am_r 46), some (.inl (nI t)), some (.inl (nI m)), some (.inl (nI (srtS w (min s m)).2)), some (.inl (nI (las w (min s m)))), some (.inl (nI s)), x6, x7, x8] [] H1 := by
          intro v bb gw1 gv1 gb1 H1 F1 b4 b5 b6 hbb hbv g1 g2 g3
          have m1 := (F1 46 (by simp)).trans hm
          have hle := srtS_le w (min s m)
          have nx := ih (s + 1) H1 gw1 gv1 gb1 x6 x7 x8 (by omega) F1 b4 b5 b6 g1 g2 g3
          refine am_iload_n dX10_merge_81 rfl rfl ?_
          refine am_aload_n dX10_merge_82 rfl rfl ?_
          refine am_get f_X10_37 dX10_merge_83 rfl m1 rfl ?_
          refine am_iload dX10_merge_86 rfl rfl ?_
          refine am_zald dX10_merge_88 rfl b6 (by omega) (by omega) ?_
          rw [hbb]
          refine am_bif_eq 96 dX10_merge_89 rfl rfl (fun hb1 => ?_) (fun hb1 => ?_)
          · rw [hb1] at hbb hbv
            have hnot : ¬ (s < m ∧ 0 < w s) := of_decide_eq_false hbv.symm
            refine am_iconst (v := nI 0) dX10_merge_96 rfl (by decide +kernel) ?_
            refine am_iadd dX10_merge_97 rfl ?_
            rw [nI_add]
            refine am_istore_n dX10_merge_98 rfl rfl ?_
            refine am_aload_n dX10_merge_99 rfl rfl ?_
            refine am_get f_X10_37 dX10_merge_100 rfl m1 rfl ?_
            refine am_iload dX10_merge_103 rfl rfl ?_
            refine am_zald dX10_merge_105 rfl b6 (by omega) (by omega) ?_
            rw [hbb]
            refine am_bif_eq 114 dX10_merge_106 rfl rfl (fun hb2 => ?_) (fun hb2 => ?_)
            · refine am_iload dX10_merge_114 rfl rfl ?_
              refine am_istore dX10_merge_116 rfl rfl ?_
              refine am_iinc (n := 1) dX10_merge_118 rfl rfl (nI_1 s) ?_
              refine am_goto 13 dX10_merge_121 rfl rfl ?_
              have e0 : srtS w (min (s + 1) m) = srtS w (min s m) ∧ las w (min (s + 1) m) = las w (min s m) := by
                by_cases z : s < m
                · rw [show min (s + 1) m = s + 1 by omega, show min s m = s by omega, srtS, las, if_neg (fun q => hnot ⟨z, q⟩), if_neg (fun q => hnot ⟨z, q⟩)]
                  exact ⟨rfl, rfl⟩
                · rw [show min (s + 1) m = m by omega, show min s m = m by omega]
                  exact ⟨rfl, rfl⟩
              rw [e0.1, e0.2] at nx
              exact nx
            · cases hb2
          · rw [hb1] at hbb hbv
            have hyes : s < m ∧ 0 < w s := of_decide_eq_true hbv.symm
            refine am_iconst (v := nI 1) dX10_merge_92 rfl (by decide +kernel) ?_
            refine am_goto 97 dX10_merge_93 rfl rfl ?_
            refine am_iadd dX10_merge_97 rfl ?_
            rw [nI_add]
            refine am_istore_n dX10_merge_98 rfl rfl ?_
            refine am_aload_n dX10_merge_99 rfl rfl ?_
            refine am_get f_X10_37 dX10_merge_100 rfl m1 rfl ?_
            refine am_iload dX10_merge_103 rfl rfl ?_
            refine am_zald dX10_merge_105 rfl b6 (by omega) (by omega) ?_
            rw [hbb]
            refine am_bif_eq 114 dX10_merge_106 rfl rfl (fun hb2 => ?_) (fun hb2 => ?_)
            · cases hb2
            · refine am_iload dX10_merge_109 rfl rfl ?_
              refine am_goto 116 dX10_merge_111 rfl rfl ?_
              refine am_istore dX10_merge_116 rfl rfl ?_
              refine am_iinc (n := 1) dX10_merge_118 rfl rfl (nI_1 s) ?_
              refine am_goto 13 dX10_merge_121 rfl rfl ?_
              have e0 : (srtS w (min (s + 1) m)).2 = (srtS w (min s m)).2 + 1 ∧ las w (min (s + 1) m) = s := by
                rw [show min (s + 1) m = s + 1 by omega, show min s m = s by omega, srtS, las, if_pos hyes.2, if_pos hyes.2]
                exact ⟨rfl, rfl⟩
              rw [e0.1, e0.2] at nx
              exact nx
        have mid : ∀ (wv : Nat) (H1 : am_H), wv = (if s < m then w s else 0) → am_fr h H1 [54, 55, 56] → H1 54 = some (.inl (false, 1200, (upd gw s (nI wv)))) → H1 55 = some (.inl (false, 1200, gv)) → H1 56 = some (.inl (true, 1200, gb)) → am_At l D dA m_X10_merge d 0 0 0 0 n0 none (am_qv fun h' => ∃ gl' gc' ga', am_fr h h' [49, 50, 51, 54, 55, 56] ∧ h' 49 = some (.inl (false, 1800, gl')) ∧ h' 50 = some (.inl (false, 1800, gc')) ∧ h' 51 = some (.inl (false, 3, ga')) ∧ (∀ j, (∀ s, s < m → j ≠ 600 * t + s) → gl' j = gl j ∧ gc' j = gc j) ∧ (∀ j, j ≠ t → ga' j = ga j) ∧ mrd gl' gc' ga' t (hal (m) w) (hlen (m) w) ∧ ars h' 54 1200 ∧ ars h' 55 1200 ∧ ∃ f, h' 56 = some (.inl (true, 1200, f))) 0 0 45 [some (am_r 46), some (.inl (nI t)), some (.inl (nI m)), some (.inl (nI (srtS w (min s m)).2)), some (.inl (nI (las w (min s m)))), some (.inl (nI s)), x6, x7, x8] [] H1 := by
          intro wv H1 hwv F1 b4 b5 b6
          have m1 := (F1 46 (by simp)).trans hm
          have t1 := (F1 57 (by simp)).trans h57
          have G1 : ∀ k, k < s + 1 → upd gw s (nI wv) k = nI (if k < m then w k else 0) := fun k hk => by
            by_cases z : k = s
            · rw [z, upd_eq, hwv]
            · rw [upd_ne z]; exact hgw k (by omega)
          have G2 : ∀ k, k < s + 1 → upd gv s (-1) k = -1 := fun k hk => by
            by_cases z : k = s
            · rw [z, upd_eq]
            · rw [upd_ne z]; exact hgv k (by omega)
          have G3 : ∀ bb : Bool, bb = decide (s < m ∧ 0 < w s) → ∀ k, k < s + 1 → upd gb s (am_bz bb) k = am_bz (decide (k < m ∧ 0 < w k)) := fun bb hb k hk => by
            by_cases z : k = s
            · rw [z, upd_eq, hb]
            · rw [upd_ne z]; exact hgb k (by omega)
          refine am_aload_n dX10_merge_45 rfl rfl ?_
          refine am_get f_X10_37 dX10_merge_46 rfl m1 rfl ?_
          refine am_iload dX10_merge_49 rfl rfl ?_
          refine am_iload dX10_merge_51 rfl rfl ?_
          refine am_iload_n dX10_merge_53 rfl rfl ?_
          refine am_ncmp_ge 71 dX10_merge_54 rfl rfl (by omega) (by omega) (fun hsm => ?_) (fun hsm => ?_)
          · refine am_iconst (v := nI 0) dX10_merge_71 rfl (by decide +kernel) ?_
            refine am_zast dX10_merge_72 rfl b6 (by omega) (by omega) ?_
            rw [show nI 0 = am_bz false from rfl, nar_bz]
            refine am_aload_n dX10_merge_73 rfl rfl ?_
            refine am_get f_X10_34 dX10_merge_74 rfl ((am_set_ne (by omega)).trans m1) rfl ?_
            refine am_iload dX10_merge_77 rfl rfl ?_
            refine am_iconst (v := -1) dX10_merge_79 rfl (by decide +kernel) ?_
            refine am_iast dX10_merge_80 rfl ((am_set_ne (by omega)).trans b5) (by omega) (by omega) ?_
            exact aft 0 false _ _ _ _ ((F1.set (by simp)).set (by simp)) ((am_set_ne (by omega)).trans ((am_set_ne (by omega)).trans b4)) am_set_eq ((am_set_ne (by omega)).trans am_set_eq) upd_eq (decide_eq_false (fun q => by omega)).symm G1 G2 (G3 false (decide_eq_false (fun q => by omega)).symm)
          · refine am_aload_n dX10_merge_57 rfl rfl ?_
            refine am_get f_X10_41 dX10_merge_58 rfl m1 rfl ?_
            refine am_iload dX10_merge_61 rfl rfl ?_
            refine am_iald dX10_merge_63 rfl t1 (by omega) (by omega) ?_
            rw [hgt s (by omega)]
            have hws := hwb s (by omega)
            refine am_nif_le 71 dX10_merge_64 rfl rfl (by omega) (fun hw0 => ?_) (fun hw0 => ?_)
            · refine am_iconst (v := nI 0) dX10_merge_71 rfl (by decide +kernel) ?_
              refine am_zast dX10_merge_72 rfl b6 (by omega) (by omega) ?_
              rw [show nI 0 = am_bz false from rfl, nar_bz]
              refine am_aload_n dX10_merge_73 rfl rfl ?_
              refine am_get f_X10_34 dX10_merge_74 rfl ((am_set_ne (by omega)).trans m1) rfl ?_
              refine am_iload dX10_merge_77 rfl rfl ?_
              refine am_iconst (v := -1) dX10_merge_79 rfl (by decide +kernel) ?_
              refine am_iast dX10_merge_80 rfl ((am_set_ne (by omega)).trans b5) (by omega) (by omega) ?_
              exact aft 0 false _ _ _ _ ((F1.set (by simp)).set (by simp)) ((am_set_ne (by omega)).trans ((am_set_ne (by omega)).trans b4)) am_set_eq ((am_set_ne (by omega)).trans am_set_eq) upd_eq (decide_eq_false (fun q => by omega)).symm G1 G2 (G3 false (decide_eq_false (fun q => by omega)).symm)
            · refine am_iconst (v := nI 1) dX10_merge_67 rfl (by decide +kernel) ?_
              refine am_goto 72 dX10_merge_68 rfl rfl ?_
              refine am_zast dX10_merge_72 rfl b6 (by omega) (by omega) ?_
              rw [show nI 1 = am_bz true from rfl, nar_bz]
              refine am_aload_n dX10_merge_73 rfl rfl ?_
              refine am_get f_X10_34 dX10_merge_74 rfl ((am_set_ne (by omega)).trans m1) rfl ?_
              refine am_iload dX10_merge_77 rfl rfl ?_
              refine am_iconst (v := -1) dX10_merge_79 rfl (by decide +kernel) ?_
              refine am_iast dX10_merge_80 rfl ((am_set_ne (by omega)).trans b5) (by omega) (by omega) ?_
              exact aft 0 true _ _ _ _ ((F1.set (by simp)).set (by simp)) ((am_set_ne (by omega)).trans ((am_set_ne (by omega)).trans b4)) am_set_eq ((am_set_ne (by omega)).trans am_set_eq) upd_eq (decide_eq_true ⟨by omega, hw0⟩).symm G1 G2 (G3 true (decide_eq_true ⟨by omega, hw0⟩).symm)
        refine am_aload_n dX10_merge_21 rfl rfl ?_
        refine am_get f_X10_31 dX10_merge_22 rfl mH rfl ?_
        refine am_iload dX10_merge_25 rfl rfl ?_
        refine am_iload dX10_merge_27 rfl rfl ?_
        refine am_iload_n dX10_merge_29 rfl rfl ?_
        refine am_ncmp_ge 43 dX10_merge_30 rfl rfl (by omega) (by omega) (fun hsm => ?_) (fun hsm => ?_)
        · refine am_iconst (v := nI 0) dX10_merge_43 rfl (by decide +kernel) ?_
          refine am_iast dX10_merge_44 rfl a4 (by omega) (by omega) ?_
          exact mid 0 _ (by rw [if_neg (by omega)]) (F.set (by simp)) am_set_eq ((am_set_ne (by omega)).trans a5) ((am_set_ne (by omega)).trans a6)
        · refine am_aload_n dX10_merge_33 rfl rfl ?_
          refine am_get f_X10_41 dX10_merge_34 rfl mH rfl ?_
          refine am_iload dX10_merge_37 rfl rfl ?_
          refine am_iald dX10_merge_39 rfl tH (by omega) (by omega) ?_
          rw [hgt s (by omega)]
          refine am_goto 44 dX10_merge_40 rfl rfl ?_
          refine am_iast dX10_merge_44 rfl a4 (by omega) (by omega) ?_
          exact mid (w s) _ (by rw [if_pos (by omega)]) (F.set (by simp)) am_set_eq ((am_set_ne (by omega)).trans a5) ((am_set_ne (by omega)).trans a6)
  exact am_eq rfl rfl rfl rfl (first (m + m) 0 h gw0 gv0 gb0 _ _ _ (by omega) am_fr.rf h54 h55 h56 (fun k hk => by omega) (fun k hk => by omega) (fun k hk => by omega))
end MOD11
