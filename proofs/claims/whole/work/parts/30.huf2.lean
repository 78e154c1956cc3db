/-! ===== pure: a merging keeps what holds ===== -/
theorem tk_mono {lv w : Nat → Nat} {c nl nm nc : Nat} : nl ≤ (tk lv w c nl nm nc).2.1 ∧ nm ≤ (tk lv w c nl nm nc).2.2 := by
  unfold tk
  split
  · exact ⟨Nat.le_succ _, Nat.le_refl _⟩
  · exact ⟨Nat.le_refl _, Nat.le_succ _⟩
theorem Ac_lt {lv w : Nat → Nat} {m c nl nm nc v : Nat} (h : ord lv w m c nl nm nc) (a : Ac lv c nl nm nc v) : v < nc := by
  rcases a with ⟨i, a1, a2, rfl⟩ | ⟨a1, a2⟩
  · have := h.2.2.2.1 i a2
    have := h.2.1
    have := h.2.2.1
    omega
  · exact a2
theorem Ac_all {lv : Nat → Nat} {m c nl nm nc v : Nat} (hm : m ≤ nm) (a : Ac lv c nl nm nc v) : Ac lv c 0 m nc v := by
  rcases a with ⟨i, a1, a2, rfl⟩ | ⟨a1, a2⟩
  · exact Or.inl ⟨i, Nat.zero_le _, a2, rfl⟩
  · exact Or.inr ⟨by omega, a2⟩
theorem Ac_succ {lv : Nat → Nat} {c nl nm nc v : Nat} (h : nm ≤ nc) : Ac lv c nl nm (nc + 1) v ↔ Ac lv c nl nm nc v ∨ v = nc := by
  constructor
  · rintro (x | ⟨a1, a2⟩)
    · exact Or.inl (Or.inl x)
    · by_cases e : v = nc
      · exact Or.inr e
      · exact Or.inl (Or.inr ⟨a1, by omega⟩)
  · rintro ((x | ⟨a1, a2⟩) | rfl)
    · exact Or.inl x
    · exact Or.inr ⟨a1, by omega⟩
    · exact Or.inr ⟨h, by omega⟩
theorem INV_0 {m : Nat} {lv : Nat → Nat} {c : Nat} {w0 : Nat → Nat} (h : srd w0 lv c m) : INV m lv c w0 (SS lv w0 c 0 m m) 0 0 m w0 (fun _ => 0) 0 := by
  refine ⟨⟨Nat.zero_le _, Nat.le_refl _, Nat.le_refl _, fun i hi => (h.1 i hi).1, h.2.1, fun k k' a b d => by omega⟩, by omega, fun _ _ => rfl, fun _ _ => Nat.zero_le _, fun k a b => by omega, fun v hv => absurd rfl hv, fun v hv => absurd rfl hv, fun v a b => absurd a b, fun v hv => absurd rfl hv, fun p a b => by omega, fun v hv => ?_, fun v hv => absurd rfl hv, rfl, fun p a b => by omega⟩
  rcases hv with ⟨i, a1, a2, rfl⟩ | ⟨a1, a2⟩
  · exact (h.1 i a2).2
  · omega
set_option maxHeartbeats 4000000 in
theorem INV_S {m : Nat} {lv : Nat → Nat} {c : Nat} {w0 : Nat → Nat} {W j nl nm : Nat} {w up : Nat → Nat} {e : Nat} (hm : 1 ≤ m) (I : INV m lv c w0 W j nl nm w up e) (hj : j + 1 < c) {a nl1 nm1 b nl2 nm2 : Nat} (e1 : tk lv w c nl nm (m + j) = (a, nl1, nm1)) (e2 : tk lv w c nl1 nm1 (m + j) = (b, nl2, nm2)) :
    a < m + j ∧ nl1 ≤ c ∧ nm1 ≤ m + j ∧ b < m + j ∧ nm2 ≤ m + j ∧ Ac lv c nl nm (m + j) a ∧ (∀ v, Ac lv c nl nm (m + j) v → w a < w v ∨ (w a = w v ∧ a ≤ v)) ∧ (Ac lv c nl nm (m + j) b ∧ b ≠ a) ∧ (∀ v, Ac lv c nl nm (m + j) v → v ≠ a → w b < w v ∨ (w b = w v ∧ b ≤ v)) ∧ (∀ v, Ac lv c nl2 nm2 (m + j) v ↔ Ac lv c nl nm (m + j) v ∧ v ≠ a ∧ v ≠ b) ∧
    INV m lv c w0 W (j + 1) nl2 nm2 (updN w (m + j) (w a + w b)) (updN (updN up a (m + j)) b (m + j)) (w b) := by
  obtain ⟨i1, i2, i3, i4, i5, i6, i7, i8, i9, i10, i11, i12, i13, i14⟩ := I
  have T1 := tk_spec i1 (by omega)
  have M1 := tk_mono (lv := lv) (w := w) (c := c) (nl := nl) (nm := nm) (nc := m + j)
  rw [e1] at T1 M1
  dsimp only at T1 M1
  obtain ⟨a1, a2, a3, a4, a5, a6⟩ := T1
  have T2 := tk_spec a4 (by have := a4.1; have := a4.2.2.1; omega)
  have M2 := tk_mono (lv := lv) (w := w) (c := c) (nl := nl1) (nm := nm1) (nc := m + j)
  rw [e2] at T2 M2
  dsimp only at T2 M2
  obtain ⟨b1, b2, b3, b4, b5, b6⟩ := T2
  have hab := (a3 b).mp b1
  have hA : ∀ v, Ac lv c nl2 nm2 (m + j) v ↔ Ac lv c nl nm (m + j) v ∧ v ≠ a ∧ v ≠ b := fun v => by rw [b3 v, a3 v]; exact and_assoc
  have hal := Ac_lt i1 a1
  have hbl := Ac_lt i1 hab.1
  have hwab : w a ≤ w b := by rcases a2 b hab.1 with z | z <;> omega
  have hea := i4 a a1
  have hrest : ∀ v, Ac lv c nl2 nm2 (m + j) v → w b ≤ w v := fun v hv => by
    have := (b3 v).mp hv
    rcases b2 v this.1 with z | z <;> omega
  have wn : ∀ v, v ≠ m + j → updN w (m + j) (w a + w b) v = w v := fun v hv => updN_ne hv
  have wx : updN w (m + j) (w a + w b) (m + j) = w a + w b := updN_eq
  have upa : updN (updN up a (m + j)) b (m + j) a = m + j := by rw [updN_ne (fun z => hab.2 z.symm), updN_eq]
  have upb : updN (updN up a (m + j)) b (m + j) b = m + j := updN_eq
  have upo : ∀ v, v ≠ a → v ≠ b → updN (updN up a (m + j)) b (m + j) v = up v := fun v h1 h2 => by rw [updN_ne h2, updN_ne h1]
  have up0 : up (m + j) = 0 := by
    by_cases z : up (m + j) = 0
    · exact z
    · have := i7 (m + j) z; omega
  have hnm2 := b4.2.2.1
  have hmn := i1.2.1
  refine ⟨hal, a4.1, a4.2.2.1, hbl, hnm2, a1, a2, hab, fun v h1 h2 => b2 v ((a3 v).mpr ⟨h1, h2⟩), hA, ?_⟩
  refine ⟨⟨b4.1, b4.2.1, by omega, b4.2.2.2.1, fun i i' h1 h2 => ?_, fun k k' h1 h2 h3 => ?_⟩, by omega, fun k hk => ?_, fun v hv => ?_, fun k h1 h2 => ?_, fun v hv h2 => ?_, fun v hv => ?_, fun v h1 h2 => ?_, fun v hv => ?_, fun p h1 h2 => ?_, fun v hv => ?_, fun v h1 h2 => ?_, ?_, fun p h1 h2 => ?_⟩
  · have z1 := b4.2.2.2.1 i (by omega)
    have z2 := b4.2.2.2.1 i' h2
    rw [wn _ (by omega), wn _ (by omega)]
    exact b4.2.2.2.2.1 i i' h1 h2
  · by_cases g : k' = m + j
    · rw [g, wx]
      by_cases g2 : k = m + j
      · rw [g2, wx]; exact Nat.le_refl _
      · rw [wn _ g2]
        have := i5 k (by omega) (by omega)
        omega
    · rw [wn _ g, wn _ (by omega)]
      exact b4.2.2.2.2.2 k k' h1 h2 (by omega)
  · rw [wn _ (by omega)]; exact i3 k hk
  · rcases (Ac_succ hnm2).mp hv with z | rfl
    · rw [wn _ (by have := Ac_lt b4 z; omega)]; exact hrest v z
    · rw [wx]; omega
  · by_cases g : k = m + j
    · rw [g, wx]; omega
    · rw [wn _ g]
      have := i5 k (by omega) (by omega)
      omega
  · by_cases ga : v = a
    · rw [ga, wn _ (by omega)]; exact hwab
    · by_cases gb : v = b
      · rw [gb, wn _ (by omega)]; exact Nat.le_refl _
      · rw [upo v ga gb] at hv h2
        have z := i7 v hv
        rw [wn _ (by omega)]
        have := i6 v hv (by omega)
        omega
  · by_cases ga : v = a
    · rw [ga, upa]
      refine ⟨hal, by omega, by omega, fun z => ?_⟩
      rcases (Ac_succ hnm2).mp z with y | y
      · exact ((hA a).mp y).2.1 rfl
      · omega
    · by_cases gb : v = b
      · rw [gb, upb]
        refine ⟨hbl, by omega, by omega, fun z => ?_⟩
        rcases (Ac_succ hnm2).mp z with y | y
        · exact ((hA b).mp y).2.2 rfl
        · omega
      · rw [upo v ga gb] at hv ⊢
        have z := i7 v hv
        refine ⟨z.1, z.2.1, by omega, fun y => ?_⟩
        rcases (Ac_succ hnm2).mp y with y | y
        · exact z.2.2.2 ((hA v).mp y).1
        · omega
  · by_cases ga : v = a
    · rw [ga, upa]; omega
    · by_cases gb : v = b
      · rw [gb, upb]; omega
      · rw [upo v ga gb]
        have g1 : ¬ v = m + j := fun z => h2 ((Ac_succ hnm2).mpr (Or.inr z))
        have g2 : Ac lv c 0 m (m + j) v := by
          rcases (Ac_succ (nc := m + j) (Nat.le_add_right m j)).mp h1 with y | y
          · exact y
          · exact absurd y g1
        refine i8 v g2 (fun z => h2 ((Ac_succ hnm2).mpr (Or.inl ((hA v).mpr ⟨z, ga, gb⟩))))
  · refine (Ac_succ (nc := m + j) (Nat.le_add_right m j)).mpr (Or.inl ?_)
    by_cases ga : v = a
    · rw [ga]; exact Ac_all hmn a1
    · by_cases gb : v = b
      · rw [gb]; exact Ac_all hmn hab.1
      · rw [upo v ga gb] at hv; exact i9 v hv
  · by_cases g : p = m + j
    · subst g
      refine ⟨a, b, fun z => hab.2 z.symm, upa, upb, fun v hv => ?_, ?_⟩
      · by_cases ga : v = a
        · exact Or.inl ga
        · by_cases gb : v = b
          · exact Or.inr gb
          · rw [upo v ga gb] at hv
            have := i7 v (by omega)
            omega
      · rw [wx, wn _ (by omega), wn _ (by omega)]
    · obtain ⟨x, y, z1, z2, z3, z4, z5⟩ := i10 p h1 (by omega)
      have hx := i7 x (by omega)
      have hy := i7 y (by omega)
      have nx : x ≠ a ∧ x ≠ b := ⟨fun q => hx.2.2.2 (q ▸ a1), fun q => hx.2.2.2 (q ▸ hab.1)⟩
      have ny : y ≠ a ∧ y ≠ b := ⟨fun q => hy.2.2.2 (q ▸ a1), fun q => hy.2.2.2 (q ▸ hab.1)⟩
      refine ⟨x, y, z1, by rw [upo x nx.1 nx.2]; exact z2, by rw [upo y ny.1 ny.2]; exact z3, fun v hv => ?_, ?_⟩
      · by_cases ga : v = a
        · rw [ga, upa] at hv; omega
        · by_cases gb : v = b
          · rw [gb, upb] at hv; omega
          · rw [upo v ga gb] at hv; exact z4 v hv
      · rw [wn _ g, wn _ (by omega), wn _ (by omega)]; exact z5
  · rcases (Ac_succ (nc := m + j) (Nat.le_add_right m j)).mp hv with z | rfl
    · rw [wn _ (by
        rcases z with ⟨i, q1, q2, rfl⟩ | ⟨q1, q2⟩
        · have := i1.2.2.2.1 i q2; omega
        · omega)]
      exact i11 v z
    · rw [wx]
      have := i11 a (Ac_all hmn a1)
      omega
  · by_cases ga : v = a
    · rw [ga, upa, upo (m + j) (by omega) (by omega)] at h2; exact absurd up0 h2
    · by_cases gb : v = b
      · rw [gb, upb, upo (m + j) (by omega) (by omega)] at h2; exact absurd up0 h2
      · rw [upo v ga gb] at h1 h2 ⊢
        have z := i7 v h1
        have hv6 : Ac lv c nl nm (m + j) (up v) → w v ≤ e := fun y => by
          refine i6 v h1 ?_
          rcases y with ⟨i, q1, q2, q3⟩ | ⟨q1, q2⟩
          · have := i1.2.2.2.1 i q2; omega
          · exact q1
        rw [wn (up v) (by omega), wn v (by omega)]
        by_cases pa : up v = a
        · have := hv6 (by rw [pa]; exact a1)
          rw [pa, upa, wx]
          omega
        · by_cases pb : up v = b
          · have := hv6 (by rw [pb]; exact hab.1)
            rw [pb, upb, wx]
            omega
          · rw [upo (up v) pa pb] at h2 ⊢
            have y := i7 (up v) h2
            rw [wn _ (by omega)]
            exact i12 v h1 h2
  · unfold SS at i13 a6 b6 ⊢
    rw [show m + (j + 1) - nm2 = (m + j - nm2) + 1 by omega]
    show _ + (ss _ nm2 (m + j - nm2) + updN w (m + j) (w a + w b) (nm2 + (m + j - nm2))) = W
    rw [show nm2 + (m + j - nm2) = m + j by omega, wx, ss_congr (g := fun i => updN w (m + j) (w a + w b) (lv i)) (g' := fun i => w (lv i)) (fun i h1 h2 => by
      have := i1.2.2.2.1 i (by have := b4.1; omega)
      exact wn _ (by omega)), ss_congr (g := updN w (m + j) (w a + w b)) (g' := w) (fun i h1 h2 => wn _ (by omega))]
    omega
  · by_cases g : p = m + j
    · subst g
      rw [wx, show m + j - m = j by omega]
      have s1 := ss_ge (g := fun i => w (lv i)) (e := w b) (n := c - nl2) (a := nl2) (fun i h1 h2 => hrest (lv i) (Or.inl ⟨i, h1, by have := b4.1; omega, rfl⟩))
      have s2 := ss_ge (g := w) (e := w b) (n := m + j - nm2) (a := nm2) (fun i h1 h2 => hrest i (Or.inr ⟨h1, by omega⟩))
      unfold SS at i13 a6 b6
      have s3 : (c - nl2) * w b + (m + j - nm2) * w b = (c - j - 2) * w b := by
        rw [← Nat.add_mul]
        congr 1
        omega
      have s4 : (c - j) * (w a + w b) = 2 * (w a + w b) + (c - j - 2) * (w a + w b) := by
        rw [← Nat.add_mul]
        congr 1
        omega
      have s5 : (c - j - 2) * (w a + w b) ≤ (c - j - 2) * (2 * w b) := Nat.mul_le_mul_left _ (by omega)
      have s6 : (c - j - 2) * (2 * w b) = 2 * ((c - j - 2) * w b) := by rw [Nat.mul_left_comm]
      rw [s4]
      omega
    · rw [wn _ g]; exact i14 p h1 (by omega)
