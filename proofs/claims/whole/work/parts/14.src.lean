/-! ===== BitSource ===== -/
section SRC
variable {l : Launch} {D : va_G} {dA : Bool → ClassId}
abbrev bsO (r E k : Nat) : am_E := .inr (2, [am_r r, .inl (nI E), .inl (nI k)])
abbrev rwO (a c : Nat) : am_E := .inr (3, [am_r a, .inl (nI c)])
theorem stl.keep {h h' : am_H} {t m : Nat} {len : Nat → Nat} (hs : stl h t m len) (hk : ∀ j, t + 2 ≤ j → j ≤ t + 7 → h' j = h j) : stl h' t m len := by
  obtain ⟨cf, orf, ct, fc, fp, a1, a2, a3, a4, a5, a6⟩ := hs
  exact ⟨cf, orf, ct, fc, fp, (hk _ (by omega) (by omega)).trans a1, (hk _ (by omega) (by omega)).trans a2, (hk _ (by omega) (by omega)).trans a3, (hk _ (by omega) (by omega)).trans a4, (hk _ (by omega) (by omega)).trans a5, a6⟩
theorem num_1 (f : Nat → Int32) (k : Nat) : num f k 1 = bt f k := by show 2 * 0 + bt f (k + 0) = _; simp
/-- a tree is fit to be read by -/
def rdy (h : am_H) (t m : Nat) (al : Int32) (len : Nat → Nat) : Prop := (al = -1 → stl h t m len ∧ krf len m = 65536 ∧ ∀ s, s < m → len s ≤ 16) ∧ (al ≠ -1 → ∃ s, s < m ∧ al = nI s)
/-- a symbol and its bits -/
def SR (len : Nat → Nat) (m : Nat) (al : Int32) (f : Nat → Int32) (k n s : Nat) : Prop := s < m ∧ ((al ≠ -1 ∧ al = nI s ∧ n = 0) ∨ (al = -1 ∧ len s = n ∧ dec len m f k n (cnt len n s)))
theorem SR_ex {h : am_H} {t m : Nat} {al : Int32} {len : Nat → Nat} (hr : rdy h t m al len) (f : Nat → Int32) (k : Nat) : ∃ n s, SR len m al f k n s := by
  by_cases g : al = -1
  · obtain ⟨h1, h2, h3⟩ := hr.1 g
    obtain ⟨n, j, hd⟩ := dec_ex h3 h2 f k
    obtain ⟨s, a, b, c⟩ := cnt_nth hd.2.2.2.2
    exact ⟨n, s, a, Or.inr ⟨g, b, by rw [c]; exact hd⟩⟩
  · obtain ⟨s, a, b⟩ := hr.2 g
    exact ⟨0, s, a, Or.inl ⟨g, b, rfl⟩⟩
/-- how many bits 1 stand in a row, up to a limit -/
def ons (f : Nat → Int32) (k : Nat) : Nat → Nat
  | 0 => 0
  | q + 1 => if bt f k = 1 then ons f (k + 1) q + 1 else 0
theorem ons_le (f : Nat → Int32) : ∀ (q k : Nat), ons f k q ≤ q
  | 0, _ => Nat.le_refl _
  | q + 1, k => by
    have := ons_le f q (k + 1)
    unfold ons
    split <;> omega
/-- a length as T and P have it: its value, its bits -/
def tlv (f : Nat → Int32) (k : Nat) : Nat := if num f k 3 < 7 then num f k 3 else 7 + ons f (k + 3) 10
def tln (f : Nat → Int32) (k : Nat) : Nat := if num f k 3 < 7 then 3 else if ons f (k + 3) 10 = 10 then 13 else 4 + ons f (k + 3) 10
set_option maxHeartbeats 4000000 in
set_option maxRecDepth 100000 in
theorem t_X2_open (d n0 : Nat) {h : am_H} {s r a E k c n : Nat} {u v : Int32} (hs : h s = some (.inr (2, [am_r r, .inl u, .inl v]))) (hr : h r = some (rwO a c)) (hsr : s ≠ r) (hc : c < 2 ^ 20) (hn : n ≤ c) (hd : 1 ≤ d) : am_Ct l D dA m_X2_open d 0 0 n0 [am_r s, .inl (nI n)] h (am_qv fun h' => h' = am_set h s (bsO r (8 * n) 0)) := by
  refine am_Cv (by decide +kernel) rfl rfl ?_
  refine am_aload_n dX2_open_0 rfl rfl ?_
  refine am_bipush (v := nI 8) dX2_open_1 rfl (by decide +kernel) ?_
  refine am_iload_n dX2_open_3 rfl rfl ?_
  refine am_aload_n dX2_open_4 rfl rfl ?_
  refine am_get f_X2_9 dX2_open_5 rfl hs rfl ?_
  refine am_vi (t_X3_count (d - 1) _ hr) k_X3_count l_X2_22 dX2_open_8 rfl rfl rfl rfl hr (by omega) (Nat.le_refl _) (Nat.le_refl _) (fun x h1 hx => ?_)
  obtain ⟨rfl, hh⟩ := hx
  obtain rfl := hh.symm
  refine am_min l_X2_28 wd_mins wd_mini wd_minc dX2_open_11 rfl (Nat.le_of_ble_eq_true rfl) (by omega) (Nat.le_refl _) (Nat.le_refl _) ?_
  rw [if_neg (nI_nlt hn (by omega))]
  refine am_imul dX2_open_14 rfl ?_
  rw [pk_mul]
  refine am_put f_X2_15 dX2_open_15 rfl hs (am_fit_i _) rfl ?_
  refine am_aload_n dX2_open_18 rfl rfl ?_
  refine am_iconst (v := nI 0) dX2_open_19 rfl (by decide +kernel) ?_
  refine am_put f_X2_19 dX2_open_20 rfl am_set_eq (am_fit_i _) rfl ?_
  exact am_rv dX2_open_23 rfl rfl rfl (by rw [am_set_set]; rfl)
set_option maxHeartbeats 4000000 in
set_option maxRecDepth 100000 in
theorem t_X2_taken (d n0 : Nat) {h : am_H} {s r E k : Nat} (hs : h s = some (bsO r E k)) : am_Ct l D dA m_X2_taken d 0 0 n0 [am_r s] h (am_qi fun x h' => x = nI k ∧ h' = h) := by
  refine am_Ci (by decide +kernel) rfl rfl ?_
  refine am_aload_n dX2_taken_0 rfl rfl ?_
  refine am_get f_X2_19 dX2_taken_1 rfl hs rfl ?_
  exact am_ri dX2_taken_4 rfl rfl rfl ⟨rfl, rfl⟩
set_option maxHeartbeats 4000000 in
set_option maxRecDepth 100000 in
theorem t_X2_take (d n0 : Nat) {h : am_H} {s r a n E k c : Nat} {f : Nat → Int32} (hs : h s = some (bsO r E k)) (hr : h r = some (rwO a c)) (ha : h a = some (.inl (false, n, f))) (hE : E ≤ 8 * n) (hn : n < 2 ^ 20) (hk : k ≤ E) (hsr : s ≠ r) (hsa : s ≠ a) {b : Nat} (hb : b ≤ 16) : am_Ct l D dA m_X2_take d 0 0 n0 [am_r s, .inl (nI b)] h (am_qi fun x h' => (k + b ≤ E → x = nI (num f k b) ∧ h' = am_set h s (bsO r E (k + b))) ∧ (E < k + b → x = -1 ∧ h' = am_set h s (bsO r E E))) := by
  refine am_Ci (by decide +kernel) rfl rfl ?_
  refine am_iload_n dX2_take_0 rfl rfl ?_
  refine am_aload_n dX2_take_1 rfl rfl ?_
  refine am_get f_X2_15 dX2_take_2 rfl hs rfl ?_
  refine am_aload_n dX2_take_5 rfl rfl ?_
  refine am_get f_X2_19 dX2_take_6 rfl hs rfl ?_
  refine am_isub dX2_take_9 rfl ?_
  rw [pk_sub hk]
  refine am_ncmp_le 23 dX2_take_10 rfl rfl (by omega) (by omega) (fun hc => ?_) (fun hc => ?_)
  · refine am_iconst (v := nI 0) dX2_take_23 rfl (by decide +kernel) ?_
    refine am_istore_n dX2_take_24 rfl rfl ?_
    refine am_iconst (v := nI 0) dX2_take_25 rfl (by decide +kernel) ?_
    refine am_istore_n dX2_take_26 rfl rfl ?_
    have loop : ∀ (q i : Nat), i + q = b → am_At l D dA m_X2_take d 0 0 0 0 n0 none (am_qi fun x h' => (k + b ≤ E → x = nI (num f k b) ∧ h' = am_set h s (bsO r E (k + b))) ∧ (E < k + b → x = -1 ∧ h' = am_set h s (bsO r E E))) 0 0 27 [some (am_r s), some (.inl (nI b)), some (.inl (nI (num f k i))), some (.inl (nI i))] [] (am_set h s (bsO r E (k + i))) := by
      intro q
      induction q with
      | zero =>
        intro i hi
        obtain rfl : i = b := by omega
        refine am_iload_n dX2_take_27 rfl rfl ?_
        refine am_iload_n dX2_take_28 rfl rfl ?_
        refine am_ncmp_ge 80 dX2_take_29 rfl rfl (by omega) (by omega) (fun hc => ?_) (fun hc => ?_)
        · refine am_iload_n dX2_take_80 rfl rfl ?_
          exact am_ri dX2_take_81 rfl rfl rfl ⟨fun _ => ⟨rfl, rfl⟩, fun g => by omega⟩
        · omega
      | succ q ih =>
        intro i hi
        have hnl := num_lt f k i
        have hp : 2 ^ i ≤ 2 ^ 15 := Nat.pow_le_pow_right (by omega) (by omega)
        refine am_iload_n dX2_take_27 rfl rfl ?_
        refine am_iload_n dX2_take_28 rfl rfl ?_
        refine am_ncmp_ge 80 dX2_take_29 rfl rfl (by omega) (by omega) (fun hc => ?_) (fun hc => ?_)
        · omega
        · refine am_iload_n dX2_take_32 rfl rfl ?_
          refine am_iconst (v := nI 1) dX2_take_33 rfl (by decide +kernel) ?_
          refine am_ishl dX2_take_34 rfl ?_
          refine am_aload_n dX2_take_35 rfl rfl ?_
          refine am_get f_X2_9 dX2_take_36 rfl am_set_eq rfl ?_
          refine am_getN f_X2_34 dX2_take_39 rfl ((am_set_ne hsr.symm).trans hr) rfl ?_
          refine am_aload_n dX2_take_42 rfl rfl ?_
          refine am_get f_X2_19 dX2_take_43 rfl am_set_eq rfl ?_
          refine am_iconst (v := nI 3) dX2_take_46 rfl (by decide +kernel) ?_
          refine am_ishr dX2_take_47 rfl ?_
          rw [am_m31 (by omega), pk_shrN (by omega) (nI 3) 3 (am_smod (by omega))]
          refine am_iald dX2_take_48 rfl ((am_set_ne hsa.symm).trans ha) (by omega) (by omega) ?_
          refine am_bipush (v := nI 7) dX2_take_49 rfl (by decide +kernel) ?_
          refine am_aload_n dX2_take_51 rfl rfl ?_
          refine am_get f_X2_19 dX2_take_52 rfl am_set_eq rfl ?_
          refine am_bipush (v := nI 7) dX2_take_55 rfl (by decide +kernel) ?_
          refine am_iand dX2_take_57 rfl ?_
          rw [pk_andN (by omega) (m := nI 7) 3 (by decide +kernel)]
          refine am_isub dX2_take_58 rfl ?_
          rw [pk_sub (by omega)]
          refine am_ishr dX2_take_59 rfl ?_
          refine am_iconst (v := nI 1) dX2_take_60 rfl (by decide +kernel) ?_
          refine am_iand dX2_take_61 rfl ?_
          rw [show (2 : Nat) ^ 3 = 8 from rfl, bt_and f (k + i)]
          refine am_ior dX2_take_62 rfl ?_
          rw [nI_or1 (by omega) (bt_lt f (k + i))]
          refine am_istore_n dX2_take_63 rfl rfl ?_
          refine am_aload_n dX2_take_64 rfl rfl ?_
          refine am_dup dX2_take_65 rfl ?_
          refine am_get f_X2_19 dX2_take_66 rfl am_set_eq rfl ?_
          refine am_iconst (v := nI 1) dX2_take_69 rfl (by decide +kernel) ?_
          refine am_iadd dX2_take_70 rfl ?_
          rw [nI_add]
          refine am_put f_X2_19 dX2_take_71 rfl am_set_eq (am_fit_i _) rfl ?_
          refine am_iinc (n := 1) dX2_take_74 rfl rfl (nI_1 i) ?_
          refine am_goto 27 dX2_take_77 rfl rfl ?_
          rw [am_set_set]
          exact ih (i + 1) (by omega)
    refine am_eq rfl rfl rfl ?_ (loop b 0 (by omega))
    exact (am_set_self hs).symm
  · refine am_aload_n dX2_take_13 rfl rfl ?_
    refine am_aload_n dX2_take_14 rfl rfl ?_
    refine am_get f_X2_15 dX2_take_15 rfl hs rfl ?_
    refine am_put f_X2_19 dX2_take_18 rfl hs (am_fit_i _) rfl ?_
    refine am_iconst (v := -1) dX2_take_21 rfl (by decide +kernel) ?_
    exact am_ri dX2_take_22 rfl rfl rfl ⟨fun g => by omega, fun _ => ⟨rfl, rfl⟩⟩
set_option maxHeartbeats 4000000 in
set_option maxRecDepth 100000 in
theorem t_X2_takeSymbol (d n0 : Nat) {h : am_H} {s r a n E k c : Nat} {f : Nat → Int32} (hs : h s = some (bsO r E k)) (hr : h r = some (rwO a c)) (ha : h a = some (.inl (false, n, f))) (hE : E ≤ 8 * n) (hn : n < 2 ^ 20) (hk : k ≤ E) (hsr : s ≠ r) (hsa : s ≠ a) {t m : Nat} {al : Int32} {len : Nat → Nat} (ht : h t = some (trO t al)) (hm : m < 2 ^ 20) (hrd : rdy h t m al len) (hst : ∀ j, t ≤ j → j ≤ t + 7 → j ≠ s) {w y : Nat} (hSR : SR len m al f k w y) (hd : 1 ≤ d) : am_Ct l D dA m_X2_takeSymbol d 0 0 n0 [am_r s, am_r t] h (am_qi fun x h' => (k + w ≤ E → x = nI y ∧ h' = am_set h s (bsO r E (k + w))) ∧ (E < k + w → x = -1 ∧ h' = am_set h s (bsO r E E))) := by
  refine am_Ci (by decide +kernel) rfl rfl ?_
  refine am_aload_n dX2_takeSymbol_0 rfl rfl ?_
  refine am_vi (t_X7_isAlone (d - 1) _ ht) k_X7_isAlone l_X2_38 dX2_takeSymbol_1 rfl rfl rfl rfl ht (by omega) (Nat.le_refl _) (Nat.le_refl _) (fun x h1 hx => ?_)
  obtain ⟨rfl, hh⟩ := hx
  obtain rfl := hh.symm
  refine am_bif_eq 12 dX2_takeSymbol_4 rfl rfl (fun hc => ?_) (fun hc => ?_)
  · have hal : al = -1 := by simpa using hc
    obtain ⟨hy, hSR⟩ := hSR
    obtain ⟨hw, hdec⟩ : len y = w ∧ dec len m f k w (cnt len w y) := by
      rcases hSR with ⟨g, -⟩ | ⟨-, hw, hdec⟩
      · exact absurd hal g
      · exact ⟨hw, hdec⟩
    obtain ⟨hstl, -, hle⟩ := hrd.1 hal
    obtain ⟨d1, d2, d3, d4, d5⟩ := id hdec
    refine am_iconst (v := nI 0) dX2_takeSymbol_12 rfl (by decide +kernel) ?_
    refine am_istore_n dX2_takeSymbol_13 rfl rfl ?_
    refine am_iconst (v := nI 1) dX2_takeSymbol_14 rfl (by decide +kernel) ?_
    refine am_istore_n dX2_takeSymbol_15 rfl rfl ?_
    have loop : ∀ (q i : Nat) (x4 x5 : Option am_V), i + 1 + q = w → k + i ≤ E → am_At l D dA m_X2_takeSymbol d 0 0 0 0 n0 none (am_qi fun x h' => (k + w ≤ E → x = nI y ∧ h' = am_set h s (bsO r E (k + w))) ∧ (E < k + w → x = -1 ∧ h' = am_set h s (bsO r E E))) 0 0 16 [some (am_r s), some (am_r t), some (.inl (nI (num f k i))), some (.inl (nI (i + 1))), x4, x5] [] (am_set h s (bsO r E (k + i))) := by
      intro q
      induction q with
      | zero =>
        intro i x4 x5 hi hEk
        have hnl := num_lt f k i
        have hp : 2 ^ i ≤ 2 ^ 15 := Nat.pow_le_pow_right (by omega) (by omega)
        have hs' : am_set h s (bsO r E (k + i)) s = some (bsO r E (k + i)) := am_set_eq
        have hr' : am_set h s (bsO r E (k + i)) r = some (rwO a c) := (am_set_ne hsr.symm).trans hr
        have ha' : am_set h s (bsO r E (k + i)) a = some (.inl (false, n, f)) := (am_set_ne hsa.symm).trans ha
        have hb1 := bt_lt f (k + i)
        refine am_iload_n dX2_takeSymbol_16 rfl rfl ?_
        refine am_bipush (v := nI 16) dX2_takeSymbol_17 rfl (by decide +kernel) ?_
        refine am_ncmp_gt 67 dX2_takeSymbol_19 rfl rfl (by omega) (by omega) (fun hc => ?_) (fun hc => ?_)
        · omega
        · refine am_aload_n dX2_takeSymbol_22 rfl rfl ?_
          refine am_iconst (v := nI 1) dX2_takeSymbol_23 rfl (by decide +kernel) ?_
          refine am_vi (t_X2_take (d - 1) _ hs' hr' ha' hE hn hEk hsr hsa (b := 1) (by omega)) k_X2_take l_X2_47 dX2_takeSymbol_24 rfl rfl rfl rfl hs' (by omega) (Nat.le_refl _) (Nat.le_refl _) (fun x h1 hx => ?_)
          obtain ⟨hx1, hx2⟩ := hx
          by_cases hE1 : k + i + 1 ≤ E
          · obtain ⟨rfl, rfl⟩ := hx1 hE1
            rw [am_set_set, num_1]
            refine am_istore dX2_takeSymbol_27 rfl rfl ?_
            refine am_iload dX2_takeSymbol_29 rfl rfl ?_
            refine am_iconst (v := -1) dX2_takeSymbol_31 rfl (by decide +kernel) ?_
            refine am_icmp_ne 37 dX2_takeSymbol_32 rfl rfl (fun hc => ?_) (fun hc => ?_)
            · refine am_iload_n dX2_takeSymbol_37 rfl rfl ?_
              refine am_iconst (v := nI 1) dX2_takeSymbol_38 rfl (by decide +kernel) ?_
              refine am_ishl dX2_takeSymbol_39 rfl ?_
              refine am_iload dX2_takeSymbol_40 rfl rfl ?_
              refine am_ior dX2_takeSymbol_42 rfl ?_
              rw [nI_or1 (by omega) hb1, show 2 * num f k i + bt f (k + i) = num f k (i + 1) from rfl]
              refine am_istore_n dX2_takeSymbol_43 rfl rfl ?_
              refine am_aload_n dX2_takeSymbol_44 rfl rfl ?_
              refine am_iload_n dX2_takeSymbol_45 rfl rfl ?_
              refine am_iload_n dX2_takeSymbol_46 rfl rfl ?_
              have hnl2 := num_lt f k (i + 1)
              have hp2 : 2 ^ (i + 1) ≤ 2 ^ 16 := Nat.pow_le_pow_right (by omega) (by omega)
              have hge := dec_ge (n := i + 1) (fun n' a b => d3 n' a (by omega))
              refine am_vi (t_X7_symbolOf (d - 1) _ ((am_set_ne (hst t (by omega) (by omega))).trans ht) hm hle (hstl.keep (fun j a b => am_set_ne (hst j (by omega) (by omega)))) (by omega : 1 ≤ i + 1) (by omega) (by omega) hge) k_X7_symbolOf l_X2_51 dX2_takeSymbol_47 rfl rfl rfl rfl ((am_set_ne (hst t (by omega) (by omega))).trans ht) (by omega) (Nat.le_refl _) (Nat.le_refl _) (fun x h1 hx => ?_)
              obtain ⟨hh, hx3, hx4⟩ := hx
              rw [hh]
              have hi1 : i + 1 = w := by omega
              have hx5 := hx4 y hy (by omega) (by rw [hi1]; exact d4)
              subst hx5
              refine am_istore dX2_takeSymbol_50 rfl rfl ?_
              refine am_iload dX2_takeSymbol_52 rfl rfl ?_
              refine am_iconst (v := -1) dX2_takeSymbol_54 rfl (by decide +kernel) ?_
              refine am_icmp_eq 61 dX2_takeSymbol_55 rfl rfl (fun hc => ?_) (fun hc => ?_)
              · exact absurd hc (am_nm1 (by omega))
              · refine am_iload dX2_takeSymbol_58 rfl rfl ?_
                exact am_ri dX2_takeSymbol_60 rfl rfl rfl ⟨fun g => ⟨rfl, by rw [← hi1]; rfl⟩, fun g => by omega⟩
            · exact absurd hc (am_nm1 (by omega))
          · obtain ⟨rfl, rfl⟩ := hx2 (by omega)
            rw [am_set_set]
            refine am_istore dX2_takeSymbol_27 rfl rfl ?_
            refine am_iload dX2_takeSymbol_29 rfl rfl ?_
            refine am_iconst (v := -1) dX2_takeSymbol_31 rfl (by decide +kernel) ?_
            refine am_icmp_ne 37 dX2_takeSymbol_32 rfl rfl (fun hc => ?_) (fun hc => ?_)
            · exact absurd rfl hc
            · refine am_iconst (v := -1) dX2_takeSymbol_35 rfl (by decide +kernel) ?_
              exact am_ri dX2_takeSymbol_36 rfl rfl rfl ⟨fun g => by omega, fun _ => ⟨rfl, rfl⟩⟩
      | succ q ih =>
        intro i x4 x5 hi hEk
        have hnl := num_lt f k i
        have hp : 2 ^ i ≤ 2 ^ 15 := Nat.pow_le_pow_right (by omega) (by omega)
        have hs' : am_set h s (bsO r E (k + i)) s = some (bsO r E (k + i)) := am_set_eq
        have hr' : am_set h s (bsO r E (k + i)) r = some (rwO a c) := (am_set_ne hsr.symm).trans hr
        have ha' : am_set h s (bsO r E (k + i)) a = some (.inl (false, n, f)) := (am_set_ne hsa.symm).trans ha
        have hb1 := bt_lt f (k + i)
        refine am_iload_n dX2_takeSymbol_16 rfl rfl ?_
        refine am_bipush (v := nI 16) dX2_takeSymbol_17 rfl (by decide +kernel) ?_
        refine am_ncmp_gt 67 dX2_takeSymbol_19 rfl rfl (by omega) (by omega) (fun hc => ?_) (fun hc => ?_)
        · omega
        · refine am_aload_n dX2_takeSymbol_22 rfl rfl ?_
          refine am_iconst (v := nI 1) dX2_takeSymbol_23 rfl (by decide +kernel) ?_
          refine am_vi (t_X2_take (d - 1) _ hs' hr' ha' hE hn hEk hsr hsa (b := 1) (by omega)) k_X2_take l_X2_47 dX2_takeSymbol_24 rfl rfl rfl rfl hs' (by omega) (Nat.le_refl _) (Nat.le_refl _) (fun x h1 hx => ?_)
          obtain ⟨hx1, hx2⟩ := hx
          by_cases hE1 : k + i + 1 ≤ E
          · obtain ⟨rfl, rfl⟩ := hx1 hE1
            rw [am_set_set, num_1]
            refine am_istore dX2_takeSymbol_27 rfl rfl ?_
            refine am_iload dX2_takeSymbol_29 rfl rfl ?_
            refine am_iconst (v := -1) dX2_takeSymbol_31 rfl (by decide +kernel) ?_
            refine am_icmp_ne 37 dX2_takeSymbol_32 rfl rfl (fun hc => ?_) (fun hc => ?_)
            · refine am_iload_n dX2_takeSymbol_37 rfl rfl ?_
              refine am_iconst (v := nI 1) dX2_takeSymbol_38 rfl (by decide +kernel) ?_
              refine am_ishl dX2_takeSymbol_39 rfl ?_
              refine am_iload dX2_takeSymbol_40 rfl rfl ?_
              refine am_ior dX2_takeSymbol_42 rfl ?_
              rw [nI_or1 (by omega) hb1, show 2 * num f k i + bt f (k + i) = num f k (i + 1) from rfl]
              refine am_istore_n dX2_takeSymbol_43 rfl rfl ?_
              refine am_aload_n dX2_takeSymbol_44 rfl rfl ?_
              refine am_iload_n dX2_takeSymbol_45 rfl rfl ?_
              refine am_iload_n dX2_takeSymbol_46 rfl rfl ?_
              have hnl2 := num_lt f k (i + 1)
              have hp2 : 2 ^ (i + 1) ≤ 2 ^ 16 := Nat.pow_le_pow_right (by omega) (by omega)
              have hge := dec_ge (n := i + 1) (fun n' a b => d3 n' a (by omega))
              refine am_vi (t_X7_symbolOf (d - 1) _ ((am_set_ne (hst t (by omega) (by omega))).trans ht) hm hle (hstl.keep (fun j a b => am_set_ne (hst j (by omega) (by omega)))) (by omega : 1 ≤ i + 1) (by omega) (by omega) hge) k_X7_symbolOf l_X2_51 dX2_takeSymbol_47 rfl rfl rfl rfl ((am_set_ne (hst t (by omega) (by omega))).trans ht) (by omega) (Nat.le_refl _) (Nat.le_refl _) (fun x h1 hx => ?_)
              obtain ⟨hh, hx3, hx4⟩ := hx
              rw [hh]
              have hx5 := hx3 (d3 (i + 1) (by omega) (by omega))
              subst hx5
              refine am_istore dX2_takeSymbol_50 rfl rfl ?_
              refine am_iload dX2_takeSymbol_52 rfl rfl ?_
              refine am_iconst (v := -1) dX2_takeSymbol_54 rfl (by decide +kernel) ?_
              refine am_icmp_eq 61 dX2_takeSymbol_55 rfl rfl (fun hc => ?_) (fun hc => ?_)
              · refine am_iinc (n := 1) dX2_takeSymbol_61 rfl rfl (nI_1 (i + 1)) ?_
                refine am_goto 16 dX2_takeSymbol_64 rfl rfl ?_
                exact ih (i + 1) _ _ (by omega) (by omega)
              · exact absurd rfl hc
            · exact absurd hc (am_nm1 (by omega))
          · obtain ⟨rfl, rfl⟩ := hx2 (by omega)
            rw [am_set_set]
            refine am_istore dX2_takeSymbol_27 rfl rfl ?_
            refine am_iload dX2_takeSymbol_29 rfl rfl ?_
            refine am_iconst (v := -1) dX2_takeSymbol_31 rfl (by decide +kernel) ?_
            refine am_icmp_ne 37 dX2_takeSymbol_32 rfl rfl (fun hc => ?_) (fun hc => ?_)
            · exact absurd rfl hc
            · refine am_iconst (v := -1) dX2_takeSymbol_35 rfl (by decide +kernel) ?_
              exact am_ri dX2_takeSymbol_36 rfl rfl rfl ⟨fun g => by omega, fun _ => ⟨rfl, rfl⟩⟩
    refine am_eq rfl rfl rfl ?_ (loop (w - 1) 0 _ _ (by omega) (by omega))
    exact (am_set_self hs).symm
  · have hal : al ≠ -1 := by simpa using hc
    obtain ⟨hy, hSR⟩ := hSR
    obtain ⟨g2, g3⟩ : al = nI y ∧ w = 0 := by
      rcases hSR with ⟨-, g2, g3⟩ | ⟨g, -⟩
      · exact ⟨g2, g3⟩
      · exact absurd g hal
    subst g3
    refine am_aload_n dX2_takeSymbol_7 rfl rfl ?_
    refine am_vi (t_X7_alone (d - 1) _ ht) k_X7_alone l_X2_44 dX2_takeSymbol_8 rfl rfl rfl rfl ht (by omega) (Nat.le_refl _) (Nat.le_refl _) (fun x h1 hx => ?_)
    obtain ⟨rfl, hh⟩ := hx
    obtain rfl := hh.symm
    exact am_ri dX2_takeSymbol_11 rfl rfl rfl ⟨fun _ => ⟨g2, (am_set_self hs).symm⟩, fun g => by omega⟩
end SRC
