/-! ===== BitSource: lengths and distances ===== -/
section SRC2
variable {l : Launch} {D : va_G} {dA : Bool → ClassId}
set_option maxHeartbeats 4000000 in
set_option maxRecDepth 100000 in
theorem t_X2_takeLength (d n0 : Nat) {h : am_H} {s r a n E k c : Nat} {f : Nat → Int32} (hs : h s = some (bsO r E k)) (hr : h r = some (rwO a c)) (ha : h a = some (.inl (false, n, f))) (hE : E ≤ 8 * n) (hn : n < 2 ^ 20) (hk : k ≤ E) (hsr : s ≠ r) (hsa : s ≠ a) (hd : 1 ≤ d) : am_Ct l D dA m_X2_takeLength d 0 0 n0 [am_r s] h (am_qi fun x h' => (k + tln f k ≤ E → x = nI (tlv f k) ∧ h' = am_set h s (bsO r E (k + tln f k))) ∧ (E < k + tln f k → x = -1 ∧ h' = am_set h s (bsO r E E))) := by
  refine am_Ci (by decide +kernel) rfl rfl ?_
  have hn3 := num_lt f k 3
  have ho := ons_le f 10 (k + 3)
  refine am_aload_n dX2_takeLength_0 rfl rfl ?_
  refine am_iconst (v := nI 3) dX2_takeLength_1 rfl (by decide +kernel) ?_
  refine am_vi (t_X2_take (d - 1) _ hs hr ha hE hn hk hsr hsa (b := 3) (by omega)) k_X2_take l_X2_47 dX2_takeLength_2 rfl rfl rfl rfl hs (by omega) (Nat.le_refl _) (Nat.le_refl _) (fun x h3 hx => ?_)
  obtain ⟨hx1, hx2⟩ := hx
  by_cases hE3 : k + 3 ≤ E
  · obtain ⟨rfl, rfl⟩ := hx1 hE3
    refine am_istore_n dX2_takeLength_5 rfl rfl ?_
    refine am_iload_n dX2_takeLength_6 rfl rfl ?_
    refine am_bipush (v := nI 7) dX2_takeLength_7 rfl (by decide +kernel) ?_
    refine am_ncmp_eq 14 dX2_takeLength_9 rfl rfl (by omega) (by omega) (fun hc => ?_) (fun hc => ?_)
    · have ev : tlv f k = 7 + ons f (k + 3) 10 := if_neg (by omega)
      have en : tln f k = if ons f (k + 3) 10 = 10 then 13 else 4 + ons f (k + 3) 10 := if_neg (by omega)
      rw [hc]
      have loop : ∀ (q u : Nat) (x2 : Option am_V), u + q = 10 → ons f (k + 3) 10 = u + ons f (k + 3 + u) q → k + 3 + u ≤ E → am_At l D dA m_X2_takeLength d 0 0 0 0 n0 none (am_qi fun x h' => (k + tln f k ≤ E → x = nI (tlv f k) ∧ h' = am_set h s (bsO r E (k + tln f k))) ∧ (E < k + tln f k → x = -1 ∧ h' = am_set h s (bsO r E E))) 0 0 14 [some (am_r s), some (.inl (nI (7 + u))), x2] [] (am_set h s (bsO r E (k + 3 + u))) := by
        intro q
        induction q with
        | zero =>
          intro u x2 hu hq hEu
          obtain rfl : u = 10 := by omega
          have hq : ons f (k + 3) 10 = 10 := hq
          refine am_iload_n dX2_takeLength_14 rfl rfl ?_
          refine am_bipush (v := nI 16) dX2_takeLength_15 rfl (by decide +kernel) ?_
          refine am_ncmp_gt 45 dX2_takeLength_17 rfl rfl (by omega) (by omega) (fun hc => ?_) (fun hc => ?_)
          · refine am_iload_n dX2_takeLength_45 rfl rfl ?_
            exact am_ri dX2_takeLength_46 rfl rfl rfl ⟨fun _ => ⟨by rw [ev, hq], by rw [en, if_pos hq]⟩, fun g => by rw [en, if_pos hq] at g; omega⟩
          · omega
        | succ q ih =>
          intro u x2 hu hq hEu
          have hb1 := bt_lt f (k + 3 + u)
          have hs' : am_set h s (bsO r E (k + 3 + u)) s = some (bsO r E (k + 3 + u)) := am_set_eq
          have hr' : am_set h s (bsO r E (k + 3 + u)) r = some (rwO a c) := (am_set_ne hsr.symm).trans hr
          have ha' : am_set h s (bsO r E (k + 3 + u)) a = some (.inl (false, n, f)) := (am_set_ne hsa.symm).trans ha
          refine am_iload_n dX2_takeLength_14 rfl rfl ?_
          refine am_bipush (v := nI 16) dX2_takeLength_15 rfl (by decide +kernel) ?_
          refine am_ncmp_gt 45 dX2_takeLength_17 rfl rfl (by omega) (by omega) (fun hc => ?_) (fun hc => ?_)
          · omega
          · refine am_aload_n dX2_takeLength_20 rfl rfl ?_
            refine am_iconst (v := nI 1) dX2_takeLength_21 rfl (by decide +kernel) ?_
            refine am_vi (t_X2_take (d - 1) _ hs' hr' ha' hE hn hEu hsr hsa (b := 1) (by omega)) k_X2_take l_X2_47 dX2_takeLength_22 rfl rfl rfl rfl hs' (by omega) (Nat.le_refl _) (Nat.le_refl _) (fun x h4 hx => ?_)
            obtain ⟨hx1, hx2⟩ := hx
            by_cases hE4 : k + 3 + u + 1 ≤ E
            · obtain ⟨rfl, rfl⟩ := hx1 hE4
              rw [am_set_set, num_1]
              refine am_istore_n dX2_takeLength_25 rfl rfl ?_
              refine am_iload_n dX2_takeLength_26 rfl rfl ?_
              refine am_iconst (v := -1) dX2_takeLength_27 rfl (by decide +kernel) ?_
              refine am_icmp_ne 33 dX2_takeLength_28 rfl rfl (fun hc => ?_) (fun hc => ?_)
              · refine am_iload_n dX2_takeLength_33 rfl rfl ?_
                refine am_nif_ne 39 dX2_takeLength_34 rfl rfl (by omega) (fun hc => ?_) (fun hc => ?_)
                · refine am_iinc (n := 1) dX2_takeLength_39 rfl rfl (nI_1 (7 + u)) ?_
                  refine am_goto 14 dX2_takeLength_42 rfl rfl ?_
                  refine ih (u + 1) _ (by omega) ?_ (by omega)
                  rw [hq]
                  show u + (if bt f (k + 3 + u) = 1 then ons f (k + 3 + u + 1) q + 1 else 0) = u + 1 + ons f (k + 3 + (u + 1)) q
                  rw [if_pos (by omega), show k + 3 + (u + 1) = k + 3 + u + 1 by omega]
                  omega
                · have hq2 : ons f (k + 3) 10 = u := by
                    rw [hq]
                    show u + (if bt f (k + 3 + u) = 1 then _ else 0) = u
                    rw [if_neg (by omega)]
                    rfl
                  refine am_iload_n dX2_takeLength_37 rfl rfl ?_
                  exact am_ri dX2_takeLength_38 rfl rfl rfl ⟨fun _ => ⟨by rw [ev, hq2], by rw [en, if_neg (by omega), hq2, show k + (4 + u) = k + 3 + u + 1 by omega]⟩, fun g => by rw [en, if_neg (by omega), hq2] at g; omega⟩
              · exact absurd hc (am_nm1 (by omega))
            · obtain ⟨rfl, rfl⟩ := hx2 (by omega)
              rw [am_set_set]
              refine am_istore_n dX2_takeLength_25 rfl rfl ?_
              refine am_iload_n dX2_takeLength_26 rfl rfl ?_
              refine am_iconst (v := -1) dX2_takeLength_27 rfl (by decide +kernel) ?_
              refine am_icmp_ne 33 dX2_takeLength_28 rfl rfl (fun hc => ?_) (fun hc => ?_)
              · exact absurd rfl hc
              · have hlt : 4 + u ≤ tln f k := by
                  rw [en]
                  split <;> omega
                refine am_iconst (v := -1) dX2_takeLength_31 rfl (by decide +kernel) ?_
                exact am_ri dX2_takeLength_32 rfl rfl rfl ⟨fun g => by omega, fun _ => ⟨rfl, rfl⟩⟩
      exact loop 10 0 _ (by omega) (by rw [Nat.zero_add]) (by omega)
    · have ev : tlv f k = num f k 3 := if_pos (by omega)
      have en : tln f k = 3 := if_pos (by omega)
      refine am_iload_n dX2_takeLength_12 rfl rfl ?_
      exact am_ri dX2_takeLength_13 rfl rfl rfl ⟨fun _ => ⟨by rw [ev], by rw [en]⟩, fun g => by omega⟩
  · obtain ⟨rfl, rfl⟩ := hx2 (by omega)
    have hlt : 3 ≤ tln f k := by
      unfold tln
      split
      · omega
      · split <;> omega
    refine am_istore_n dX2_takeLength_5 rfl rfl ?_
    refine am_iload_n dX2_takeLength_6 rfl rfl ?_
    refine am_bipush (v := nI 7) dX2_takeLength_7 rfl (by decide +kernel) ?_
    refine am_icmp_eq 14 dX2_takeLength_9 rfl rfl (fun hc => ?_) (fun hc => ?_)
    · exact absurd hc (by decide +kernel)
    · refine am_iload_n dX2_takeLength_12 rfl rfl ?_
      exact am_ri dX2_takeLength_13 rfl rfl rfl ⟨fun g => by omega, fun _ => ⟨rfl, rfl⟩⟩
/-- the distance of a symbol of P, by the bits behind it -/
def dst (f : Nat → Int32) (k y : Nat) : Nat := if y = 0 then 1 else 2 ^ (y - 1) + num f k (y - 1) + 1
set_option maxHeartbeats 4000000 in
set_option maxRecDepth 100000 in
theorem t_X2_takeDistance (d n0 : Nat) {h : am_H} {s r a n E k c : Nat} {f : Nat → Int32} (hs : h s = some (bsO r E k)) (hr : h r = some (rwO a c)) (ha : h a = some (.inl (false, n, f))) (hE : E ≤ 8 * n) (hn : n < 2 ^ 20) (hk : k ≤ E) (hsr : s ≠ r) (hsa : s ≠ a) {t m : Nat} {al : Int32} {len : Nat → Nat} (ht : h t = some (trO t al)) (hm : m ≤ 14) (hrd : rdy h t m al len) (hst : ∀ j, t ≤ j → j ≤ t + 7 → j ≠ s) {w y : Nat} (hSR : SR len m al f k w y) (hd : 2 ≤ d) : am_Ct l D dA m_X2_takeDistance d 0 0 n0 [am_r s, am_r t] h (am_qi fun x h' => (k + w + (y - 1) ≤ E → x = nI (dst f (k + w) y) ∧ h' = am_set h s (bsO r E (k + w + (y - 1)))) ∧ (E < k + w + (y - 1) → x = -1 ∧ h' = am_set h s (bsO r E E))) := by
  refine am_Ci (by decide +kernel) rfl rfl ?_
  have hy := hSR.1
  have hp : 2 ^ (y - 1) ≤ 2 ^ 13 := Nat.pow_le_pow_right (by omega) (by omega)
  have hnl := num_lt f (k + w) (y - 1)
  refine am_aload_n dX2_takeDistance_0 rfl rfl ?_
  refine am_aload_n dX2_takeDistance_1 rfl rfl ?_
  refine am_vi (t_X2_takeSymbol (d - 1) _ hs hr ha hE hn hk hsr hsa ht (by omega) hrd hst hSR (by omega)) k_X2_takeSymbol l_X2_54 dX2_takeDistance_2 rfl rfl rfl rfl hs (by omega) (Nat.le_refl _) (Nat.le_refl _) (fun x h3 hx => ?_)
  obtain ⟨hx1, hx2⟩ := hx
  by_cases hE3 : k + w ≤ E
  · obtain ⟨rfl, rfl⟩ := hx1 hE3
    refine am_istore_n dX2_takeDistance_5 rfl rfl ?_
    refine am_iload_n dX2_takeDistance_6 rfl rfl ?_
    refine am_iconst (v := -1) dX2_takeDistance_7 rfl (by decide +kernel) ?_
    refine am_icmp_ne 13 dX2_takeDistance_8 rfl rfl (fun hc => ?_) (fun hc => ?_)
    · refine am_iload_n dX2_takeDistance_13 rfl rfl ?_
      refine am_nif_ne 19 dX2_takeDistance_14 rfl rfl (by omega) (fun hc => ?_) (fun hc => ?_)
      · have ed : dst f (k + w) y = 2 ^ (y - 1) + num f (k + w) (y - 1) + 1 := if_neg (by omega)
        refine am_aload_n dX2_takeDistance_19 rfl rfl ?_
        refine am_iload_n dX2_takeDistance_20 rfl rfl ?_
        refine am_iconst (v := nI 1) dX2_takeDistance_21 rfl (by decide +kernel) ?_
        refine am_isub dX2_takeDistance_22 rfl ?_
        rw [pk_sub (by omega)]
        refine am_vi (t_X2_take (d - 1) _ am_set_eq ((am_set_ne hsr.symm).trans hr) ((am_set_ne hsa.symm).trans ha) hE hn hE3 hsr hsa (b := y - 1) (by omega)) k_X2_take l_X2_47 dX2_takeDistance_23 rfl rfl rfl rfl am_set_eq (by omega) (Nat.le_refl _) (Nat.le_refl _) (fun x h4 hx => ?_)
        obtain ⟨hx3, hx4⟩ := hx
        by_cases hE4 : k + w + (y - 1) ≤ E
        · obtain ⟨rfl, rfl⟩ := hx3 hE4
          rw [am_set_set]
          refine am_istore_n dX2_takeDistance_26 rfl rfl ?_
          refine am_iload_n dX2_takeDistance_27 rfl rfl ?_
          refine am_iconst (v := -1) dX2_takeDistance_28 rfl (by decide +kernel) ?_
          refine am_icmp_ne 36 dX2_takeDistance_29 rfl rfl (fun hc => ?_) (fun hc => ?_)
          · refine am_iconst (v := nI 1) dX2_takeDistance_36 rfl (by decide +kernel) ?_
            refine am_iload_n dX2_takeDistance_37 rfl rfl ?_
            refine am_iconst (v := nI 1) dX2_takeDistance_38 rfl (by decide +kernel) ?_
            refine am_isub dX2_takeDistance_39 rfl ?_
            rw [pk_sub (by omega)]
            refine am_ishl dX2_takeDistance_40 rfl ?_
            rw [am_m31 (by omega), pk_shlN (nI (y - 1)) (y - 1) (am_smod (by omega)) (by omega), Nat.one_mul]
            refine am_iload_n dX2_takeDistance_41 rfl rfl ?_
            refine am_iadd dX2_takeDistance_42 rfl ?_
            refine am_iconst (v := nI 1) dX2_takeDistance_43 rfl (by decide +kernel) ?_
            refine am_iadd dX2_takeDistance_44 rfl ?_
            rw [nI_add, nI_add]
            exact am_ri dX2_takeDistance_45 rfl rfl rfl ⟨fun _ => ⟨by rw [ed], rfl⟩, fun g => by omega⟩
          · exact absurd hc (am_nm1 (by omega))
        · obtain ⟨rfl, rfl⟩ := hx4 (by omega)
          rw [am_set_set]
          refine am_istore_n dX2_takeDistance_26 rfl rfl ?_
          refine am_iload_n dX2_takeDistance_27 rfl rfl ?_
          refine am_iconst (v := -1) dX2_takeDistance_28 rfl (by decide +kernel) ?_
          refine am_icmp_ne 36 dX2_takeDistance_29 rfl rfl (fun hc => ?_) (fun hc => ?_)
          · exact absurd rfl hc
          · refine am_iconst (v := -1) dX2_takeDistance_32 rfl (by decide +kernel) ?_
            refine am_goto 45 dX2_takeDistance_33 rfl rfl ?_
            exact am_ri dX2_takeDistance_45 rfl rfl rfl ⟨fun g => by omega, fun _ => ⟨rfl, rfl⟩⟩
      · subst hc
        refine am_iconst (v := nI 1) dX2_takeDistance_17 rfl (by decide +kernel) ?_
        exact am_ri dX2_takeDistance_18 rfl rfl rfl ⟨fun _ => ⟨rfl, rfl⟩, fun g => by omega⟩
    · exact absurd hc (am_nm1 (by omega))
  · obtain ⟨rfl, rfl⟩ := hx2 (by omega)
    refine am_istore_n dX2_takeDistance_5 rfl rfl ?_
    refine am_iload_n dX2_takeDistance_6 rfl rfl ?_
    refine am_iconst (v := -1) dX2_takeDistance_7 rfl (by decide +kernel) ?_
    refine am_icmp_ne 13 dX2_takeDistance_8 rfl rfl (fun hc => ?_) (fun hc => ?_)
    · exact absurd rfl hc
    · refine am_iconst (v := -1) dX2_takeDistance_11 rfl (by decide +kernel) ?_
      exact am_ri dX2_takeDistance_12 rfl rfl rfl ⟨fun g => by omega, fun _ => ⟨rfl, rfl⟩⟩
end SRC2
