/-! ===== rows of bytes as lists; what reading is, as functions ===== -/
/-- a row of bytes: its object r, its array a of n -/
def rws (h : am_H) (r a n : Nat) (bs : List Int32) : Prop := ∃ g : Nat → Int32, h r = some (rwO a bs.length) ∧ h a = some (.inl (false, n, g)) ∧ ∀ i v, bs[i]? = some v → g i = v
theorem rws.at {h h' : am_H} {r a n : Nat} {bs : List Int32} (w : rws h r a n bs) (e1 : h' r = h r) (e2 : h' a = h a) : rws h' r a n bs := by
  obtain ⟨g, a1, a2, a3⟩ := w
  exact ⟨g, e1.trans a1, e2.trans a2, a3⟩
/-- a copy of q bytes from a distance -/
def cpl (bs : List Int32) (dd : Nat) : Nat → List Int32
  | 0 => bs
  | q + 1 => cpl bs dd q ++ [(cpl bs dd q).getD ((cpl bs dd q).length - dd) 0]
theorem cpl_len (bs : List Int32) (dd : Nat) : ∀ q, (cpl bs dd q).length = bs.length + q
  | 0 => rfl
  | q + 1 => by
    show (_ ++ [_]).length = _
    rw [List.length_append, cpl_len bs dd q]
    rfl
/-- the symbol that the bits are, with how many bits -/
noncomputable def sy (len : Nat → Nat) (m : Nat) (al : Int32) (f : Nat → Int32) (k : Nat) : Nat × Nat := @dite _ (∃ p : Nat × Nat, SR len m al f k p.1 p.2) (Classical.propDecidable _) (fun h => Classical.choose h) (fun _ => (0, 0))
theorem sy_spec {h : am_H} {t m : Nat} {al : Int32} {len : Nat → Nat} (hr : rdy h t m al len) (f : Nat → Int32) (k : Nat) : SR len m al f k (sy len m al f k).1 (sy len m al f k).2 := by
  obtain ⟨n, s, hs⟩ := SR_ex hr f k
  have he : ∃ p : Nat × Nat, SR len m al f k p.1 p.2 := ⟨(n, s), hs⟩
  unfold sy
  rw [dif_pos he]
  exact Classical.choose_spec he
/-- one code: the fault, the bits, what is made, codes, copies -/
noncomputable def oneR (lenC : Nat → Nat) (alC : Int32) (lenP : Nat → Nat) (alP : Int32) (f : Nat → Int32) (E wa k : Nat) (bs : List Int32) (co cp : Nat) : Nat × Nat × List Int32 × Nat × Nat :=
  if E < k + (sy lenC 510 alC f k).1 then (1, E, bs, co, cp)
  else if (sy lenC 510 alC f k).2 < 256 then (0, k + (sy lenC 510 alC f k).1, bs ++ [nI (sy lenC 510 alC f k).2], co + 1, cp)
  else if E < k + (sy lenC 510 alC f k).1 + (sy lenP 14 alP f (k + (sy lenC 510 alC f k).1)).1 + ((sy lenP 14 alP f (k + (sy lenC 510 alC f k).1)).2 - 1) then (1, E, bs, co, cp)
  else if bs.length < dst f (k + (sy lenC 510 alC f k).1 + (sy lenP 14 alP f (k + (sy lenC 510 alC f k).1)).1) (sy lenP 14 alP f (k + (sy lenC 510 alC f k).1)).2 then (4, k + (sy lenC 510 alC f k).1 + (sy lenP 14 alP f (k + (sy lenC 510 alC f k).1)).1 + ((sy lenP 14 alP f (k + (sy lenC 510 alC f k).1)).2 - 1), bs, co, cp)
  else ((if wa - bs.length < (sy lenC 510 alC f k).2 - 253 then 5 else 0), k + (sy lenC 510 alC f k).1 + (sy lenP 14 alP f (k + (sy lenC 510 alC f k).1)).1 + ((sy lenP 14 alP f (k + (sy lenC 510 alC f k).1)).2 - 1), cpl bs (dst f (k + (sy lenC 510 alC f k).1 + (sy lenP 14 alP f (k + (sy lenC 510 alC f k).1)).1) (sy lenP 14 alP f (k + (sy lenC 510 alC f k).1)).2) (min ((sy lenC 510 alC f k).2 - 253) (wa - bs.length)), co + 1, cp + 1)
def updN (len : Nat → Nat) (i v : Nat) : Nat → Nat := fun j => if j = i then v else len j
/-- lengths as T and P have them: the fault, the bits, the lengths -/
def lnsR (f : Nat → Int32) (E : Nat) (gp : Bool) (n : Nat) : Nat → Nat → Nat → (Nat → Nat) → Nat × Nat × (Nat → Nat)
  | 0, _, k, len => (0, k, len)
  | q + 1, i, k, len =>
    if n ≤ i then (0, k, len)
    else if E < k + tln f k then (1, E, len)
    else if 16 < tlv f k then (2, k + tln f k, len)
    else if gp = true ∧ i = 2 then (if E < k + tln f k + 2 then (1, E, updN len i (tlv f k)) else lnsR f E gp n q (i + num f (k + tln f k) 2 + 1) (k + tln f k + 2) (updN len i (tlv f k)))
    else lnsR f E gp n q (i + 1) (k + tln f k) (updN len i (tlv f k))
def bbh (y : Nat) : Nat := if y = 1 then 4 else if y = 2 then 9 else 0
def lsf (y : Nat) : Nat := if y = 1 then 3 else if y = 2 then 20 else 1
/-- lengths of C by symbols of T -/
noncomputable def lncR (f : Nat → Int32) (E n : Nat) (lenT : Nat → Nat) (alT : Int32) : Nat → Nat → Nat → (Nat → Nat) → Nat × Nat × (Nat → Nat)
  | 0, kn, k, len => ((if n < kn then 3 else 0), k, len)
  | q + 1, kn, k, len =>
    if n ≤ kn then ((if n < kn then 3 else 0), k, len)
    else if E < k + (sy lenT 19 alT f k).1 then (1, E, len)
    else if E < k + (sy lenT 19 alT f k).1 + bbh (sy lenT 19 alT f k).2 then (1, E, len)
    else lncR f E n lenT alT q (kn + (lsf (sy lenT 19 alT f k).2 + num f (k + (sy lenT 19 alT f k).1) (bbh (sy lenT 19 alT f k).2))) (k + (sy lenT 19 alT f k).1 + bbh (sy lenT 19 alT f k).2) (if 2 < (sy lenT 19 alT f k).2 then updN len kn ((sy lenT 19 alT f k).2 - 2) else len)
/-- a tree: the fault, the bits, the one symbol, the lengths; lns: what reads the lengths (their number, the bits) -/
noncomputable def treR (f : Nat → Int32) (E m nb : Nat) (lns : Nat → Nat → Nat × Nat × (Nat → Nat)) (k : Nat) : Nat × Nat × Int32 × (Nat → Nat) :=
  if E < k + nb then (1, E, -1, fun _ => 0)
  else if m < num f k nb then (3, k + nb, -1, fun _ => 0)
  else if num f k nb = 0 then (if E < k + nb + nb then (1, E, -1, fun _ => 0) else if m ≤ num f (k + nb) nb then (3, k + nb + nb, -1, fun _ => 0) else (0, k + nb + nb, nI (num f (k + nb) nb), fun _ => 0))
  else ((if (lns (num f k nb) (k + nb)).1 = 0 then (if krf (lns (num f k nb) (k + nb)).2.2 m = 65536 then 0 else 2) else (lns (num f k nb) (k + nb)).1), (lns (num f k nb) (k + nb)).2.1, -1, (lns (num f k nb) (k + nb)).2.2)
section LROW
variable {l : Launch} {D : va_G} {dA : Bool → ClassId}
theorem t_add (d n0 : Nat) {h : am_H} {r a n : Nat} {bs : List Int32} (w : rws h r a n bs) (hra : a ≠ r) (hn : n < 2 ^ 20) (hl : bs.length < n) (v : Int32) : am_Ct l D dA m_X3_add d 0 0 n0 [am_r r, .inl v] h (am_qv fun h' => am_fr h h' [r, a] ∧ rws h' r a n (bs ++ [v])) := by
  obtain ⟨g, a1, a2, a3⟩ := w
  refine (t_X3_add d n0 a1 a2 hra (by omega) hl v).mono (fun q h' hq => ⟨hq.1, ?_⟩)
  have e := hq.2
  refine ⟨by rw [e]; exact (am_fr.rf.set (by simp)).set (by simp), upd g bs.length v, ?_, ?_, ?_⟩
  · rw [e, am_set_eq, List.length_append]; rfl
  · rw [e, am_set_ne hra, am_set_eq]
  · intro i x hi
    by_cases c : i < bs.length
    · rw [List.getElem?_append_left c] at hi
      rw [upd_ne (by omega)]
      exact a3 i x hi
    · rw [List.getElem?_append_right (by omega)] at hi
      have hz : i - bs.length < 1 := (List.getElem?_eq_some_iff.mp hi).1
      have hi2 : i = bs.length := by omega
      subst hi2
      rw [Nat.sub_self] at hi
      cases hi
      exact upd_eq
theorem t_at (d n0 : Nat) {h : am_H} {r a n : Nat} {bs : List Int32} (w : rws h r a n bs) (hra : a ≠ r) (hn : n < 2 ^ 20) (hl : bs.length ≤ n) (hd : 1 ≤ d) (i : Int32) : am_Ct l D dA m_X3_at d 0 0 n0 [am_r r, .inl i] h (am_qi fun x h' => x = (match ix i bs.length with | some k => bs.getD k 0 | none => -1) ∧ h' = h) := by
  obtain ⟨g, a1, a2, a3⟩ := w
  refine (t_X3_at d n0 a1 a2 hra (by omega) hl hd i).mono (fun q h' hq => ?_)
  obtain ⟨x, e1, e2, e3⟩ := hq
  refine ⟨x, e1, ?_, e3⟩
  rw [e2]
  cases hi : ix i bs.length with
  | none => rfl
  | some k =>
    have hk := (ix_some hi).1
    show g k = bs.getD k 0
    rw [a3 k (bs[k]) (List.getElem?_eq_getElem hk), List.getD_eq_getElem?_getD, List.getElem?_eq_getElem hk]
    rfl
theorem t_count (d n0 : Nat) {h : am_H} {r a n : Nat} {bs : List Int32} (w : rws h r a n bs) : am_Ct l D dA m_X3_count d 0 0 n0 [am_r r] h (am_qi fun x h' => x = nI bs.length ∧ h' = h) := by
  obtain ⟨g, a1, a2, a3⟩ := w
  exact t_X3_count d n0 a1
theorem t_empty (d n0 : Nat) {h : am_H} {r a n : Nat} {bs : List Int32} (w : rws h r a n bs) (hra : a ≠ r) : am_Ct l D dA m_X3_empty d 0 0 n0 [am_r r] h (am_qv fun h' => am_fr h h' [r] ∧ rws h' r a n []) := by
  obtain ⟨g, a1, a2, a3⟩ := w
  refine (t_X3_empty d n0 a1).mono (fun q h' hq => ⟨hq.1, ?_⟩)
  have e := hq.2
  exact ⟨by rw [e]; exact am_fr.rf.set (by simp), g, by rw [e]; exact am_set_eq, by rw [e]; exact (am_set_ne hra).trans a2, fun i v hi => by simp at hi⟩
end LROW
