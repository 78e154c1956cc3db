/-! ===== pure: merging, its order, its weights ===== -/
theorem insP_spec (w : Nat → Nat) (s : Nat) (lv : Nat → Nat) : ∀ c, (∀ j, insP w s lv c ≤ j → j < c → w s < w (lv j)) ∧ (0 < insP w s lv c → w (lv (insP w s lv c - 1)) ≤ w s)
  | 0 => ⟨fun j a b => by omega, fun h => absurd h (Nat.lt_irrefl 0)⟩
  | p + 1 => by
    have ih := insP_spec w s lv p
    have hle := insP_le w s lv p
    unfold insP
    by_cases g : w s < w (lv p)
    · rw [if_pos g]
      refine ⟨fun j a b => ?_, ih.2⟩
      by_cases e : j = p
      · rw [e]; exact g
      · exact ih.1 j a (by omega)
    · rw [if_neg g]
      exact ⟨fun j a b => by omega, fun _ => by show w (lv p) ≤ w s; omega⟩
/-- symbols in order of weight, of the same weight in their own order -/
def srd (w : Nat → Nat) (lv : Nat → Nat) (c i : Nat) : Prop := (∀ j, j < c → lv j < i ∧ 0 < w (lv j)) ∧ (∀ j j', j < j' → j' < c → w (lv j) < w (lv j') ∨ (w (lv j) = w (lv j') ∧ lv j < lv j')) ∧ ∀ s, s < i → 0 < w s → ∃ j, j < c ∧ lv j = s
theorem srd_ins {w lv : Nat → Nat} {c i : Nat} (h : srd w lv c i) (hi : 0 < w i) : srd w (insF w i lv c) (c + 1) (i + 1) := by
  obtain ⟨h1, h2, h3⟩ := h
  obtain ⟨p1, p2⟩ := insP_spec w i lv c
  have p0 := insP_le w i lv c
  generalize hq : insP w i lv c = q at p0 p1 p2
  have hv : ∀ j, insF w i lv c j = if j < q then lv j else if j = q then i else lv (j - 1) := fun j => by unfold insF; rw [hq]
  have low : ∀ j, j < q → w (lv j) ≤ w i := fun j hj => by
    have hq0 := p2 (by omega)
    by_cases e : j = q - 1
    · rw [e]; exact hq0
    · rcases h2 j (q - 1) (by omega) (by omega) with g | g <;> omega
  refine ⟨fun j hj => ?_, fun j j' hj hj' => ?_, fun s hs hws => ?_⟩
  · rw [hv j]
    by_cases a : j < q
    · rw [if_pos a]; have := h1 j (by omega); exact ⟨by omega, this.2⟩
    · rw [if_neg a]
      by_cases b : j = q
      · rw [if_pos b]; exact ⟨by omega, hi⟩
      · rw [if_neg b]; have := h1 (j - 1) (by omega); exact ⟨by omega, this.2⟩
  · rw [hv j, hv j']
    by_cases a : j < q
    · rw [if_pos a]
      by_cases b : j' < q
      · rw [if_pos b]; exact h2 j j' hj (by omega)
      · rw [if_neg b]
        by_cases b2 : j' = q
        · rw [if_pos b2]
          have e1 := low j a
          have e2 := (h1 j (by omega)).1
          omega
        · rw [if_neg b2]; exact h2 j (j' - 1) (by omega) (by omega)
    · rw [if_neg a, if_neg (by omega : ¬ j' < q), if_neg (by omega : ¬ j' = q)]
      by_cases b : j = q
      · rw [if_pos b]; exact Or.inl (p1 (j' - 1) (by omega) (by omega))
      · rw [if_neg b]; exact h2 (j - 1) (j' - 1) (by omega) (by omega)
  · by_cases e : s = i
    · exact ⟨q, by omega, by rw [hv q, if_neg (by omega), if_pos rfl, e]⟩
    · obtain ⟨j, hj, hjs⟩ := h3 s (by omega) hws
      by_cases a : j < q
      · exact ⟨j, by omega, by rw [hv j, if_pos a, hjs]⟩
      · exact ⟨j + 1, by omega, by rw [hv (j + 1), if_neg (by omega), if_neg (by omega), show j + 1 - 1 = j by omega, hjs]⟩
theorem srd_all (w : Nat → Nat) : ∀ i, srd w (srtS w i).1 (srtS w i).2 i
  | 0 => ⟨fun j h => absurd h (Nat.not_lt_zero j), fun j j' _ h => absurd h (Nat.not_lt_zero j'), fun s h => absurd h (Nat.not_lt_zero s)⟩
  | i + 1 => by
    have ih := srd_all w i
    rw [srtS]
    by_cases g : 0 < w i
    · rw [if_pos g]; exact srd_ins ih g
    · rw [if_neg g]
      refine ⟨fun j hj => ⟨by have := (ih.1 j hj).1; omega, (ih.1 j hj).2⟩, ih.2.1, fun s hs hws => ?_⟩
      by_cases e : s = i
      · rw [e] at hws; exact absurd hws g
      · exact ih.2.2 s (by omega) hws
/-- n numbers from a on -/
def ss (g : Nat → Nat) (a : Nat) : Nat → Nat
  | 0 => 0
  | n + 1 => ss g a n + g (a + n)
theorem ss_head (g : Nat → Nat) : ∀ (n a : Nat), ss g a (n + 1) = g a + ss g (a + 1) n
  | 0, a => by show ss g a 0 + g (a + 0) = _; simp [ss]
  | n + 1, a => by
    show ss g a (n + 1) + g (a + (n + 1)) = g a + (ss g (a + 1) n + g (a + 1 + n))
    rw [ss_head g n a, show a + 1 + n = a + (n + 1) by omega]
    omega
theorem ss_congr {g g' : Nat → Nat} : ∀ {n a : Nat}, (∀ i, a ≤ i → i < a + n → g i = g' i) → ss g a n = ss g' a n
  | 0, _, _ => rfl
  | n + 1, a, h => by
    show ss g a n + _ = ss g' a n + _
    rw [ss_congr (fun i h1 h2 => h i h1 (by omega)), h (a + n) (by omega) (by omega)]
theorem ss_ge {g : Nat → Nat} {e : Nat} : ∀ {n a : Nat}, (∀ i, a ≤ i → i < a + n → e ≤ g i) → n * e ≤ ss g a n
  | 0, _, _ => by simp [ss]
  | n + 1, a, h => by
    have h1 := ss_ge (n := n) (a := a) (fun i h1 h2 => h i h1 (by omega))
    have h2 := h (a + n) (by omega) (by omega)
    show _ ≤ ss g a n + g (a + n)
    rw [Nat.succ_mul]
    omega
/-- a node that is not merged yet -/
def Ac (lv : Nat → Nat) (c nl nm nc v : Nat) : Prop := (∃ i, nl ≤ i ∧ i < c ∧ v = lv i) ∨ (nm ≤ v ∧ v < nc)
/-- what all of them weigh -/
def SS (lv w : Nat → Nat) (c nl nm nc : Nat) : Nat := ss (fun i => w (lv i)) nl (c - nl) + ss w nm (nc - nm)
/-- the two rows of nodes are in order -/
def ord (lv w : Nat → Nat) (m c nl nm nc : Nat) : Prop := nl ≤ c ∧ m ≤ nm ∧ nm ≤ nc ∧ (∀ i, i < c → lv i < m) ∧ (∀ i i', i < i' → i' < c → w (lv i) < w (lv i') ∨ (w (lv i) = w (lv i') ∧ lv i < lv i')) ∧ ∀ k k', nm ≤ k → k ≤ k' → k' < nc → w k ≤ w k'
theorem ord_inj {lv w : Nat → Nat} {m c nl nm nc : Nat} (h : ord lv w m c nl nm nc) {i i' : Nat} (hi : i < c) (hi' : i' < c) (e : lv i = lv i') : i = i' := by
  rcases Nat.lt_trichotomy i i' with g | g | g
  · rcases h.2.2.2.2.1 i i' g hi' with z | z
    · rw [e] at z; omega
    · omega
  · exact g
  · rcases h.2.2.2.2.1 i' i g hi with z | z
    · rw [e] at z; omega
    · omega
theorem tk_spec {lv w : Nat → Nat} {m c nl nm nc : Nat} (h : ord lv w m c nl nm nc) (hne : nl < c ∨ nm < nc) :
    Ac lv c nl nm nc (tk lv w c nl nm nc).1 ∧ (∀ v, Ac lv c nl nm nc v → w (tk lv w c nl nm nc).1 < w v ∨ (w (tk lv w c nl nm nc).1 = w v ∧ (tk lv w c nl nm nc).1 ≤ v)) ∧ (∀ v, Ac lv c (tk lv w c nl nm nc).2.1 (tk lv w c nl nm nc).2.2 nc v ↔ Ac lv c nl nm nc v ∧ v ≠ (tk lv w c nl nm nc).1) ∧ ord lv w m c (tk lv w c nl nm nc).2.1 (tk lv w c nl nm nc).2.2 nc ∧ (c - nl) + (nc - nm) = (c - (tk lv w c nl nm nc).2.1) + (nc - (tk lv w c nl nm nc).2.2) + 1 ∧ SS lv w c nl nm nc = w (tk lv w c nl nm nc).1 + SS lv w c (tk lv w c nl nm nc).2.1 (tk lv w c nl nm nc).2.2 nc := by
  obtain ⟨h1, h2, h3, h4, h5, h6⟩ := id h
  unfold tk
  by_cases g : nl < c ∧ (nm < nc → w (lv nl) ≤ w nm)
  · rw [if_pos g]
    dsimp only
    have hm := h4 nl g.1
    refine ⟨Or.inl ⟨nl, Nat.le_refl _, g.1, rfl⟩, ?_, ?_, ⟨by omega, h2, h3, h4, h5, h6⟩, by omega, ?_⟩
    · rintro v (⟨i, a1, a2, rfl⟩ | ⟨a1, a2⟩)
      · by_cases e : nl = i
        · subst e; exact Or.inr ⟨rfl, Nat.le_refl _⟩
        · rcases h5 nl i (by omega) a2 with z | z
          · exact Or.inl z
          · exact Or.inr ⟨z.1, by omega⟩
      · have z1 := g.2 (by omega)
        have z2 := h6 nm v (Nat.le_refl _) a1 a2
        omega
    · intro v
      constructor
      · rintro (⟨i, a1, a2, rfl⟩ | ⟨a1, a2⟩)
        · refine ⟨Or.inl ⟨i, by omega, a2, rfl⟩, fun e => ?_⟩
          have := ord_inj h a2 g.1 e
          omega
        · exact ⟨Or.inr ⟨a1, a2⟩, by omega⟩
      · rintro ⟨⟨i, a1, a2, rfl⟩ | ⟨a1, a2⟩, hn⟩
        · refine Or.inl ⟨i, ?_, a2, rfl⟩
          rcases Nat.lt_or_ge nl i with z | z
          · omega
          · exact absurd (show lv i = lv nl by rw [show i = nl by omega]) hn
        · exact Or.inr ⟨a1, a2⟩
    · unfold SS
      rw [show c - nl = (c - (nl + 1)) + 1 by omega, ss_head]
      omega
  · rw [if_neg g]
    dsimp only
    have hnm : nm < nc := by
      rcases hne with z | z
      · rcases Nat.lt_or_ge nm nc with y | y
        · exact y
        · exact absurd ⟨z, fun x => by omega⟩ g
      · exact z
    have hw : nl < c → w nm < w (lv nl) := fun z => by
      rcases Nat.lt_or_ge (w nm) (w (lv nl)) with y | y
      · exact y
      · exact absurd ⟨z, fun _ => y⟩ g
    refine ⟨Or.inr ⟨Nat.le_refl _, hnm⟩, ?_, ?_, ⟨h1, by omega, by omega, h4, h5, fun k k' a b c => h6 k k' (by omega) b c⟩, by omega, ?_⟩
    · rintro v (⟨i, a1, a2, rfl⟩ | ⟨a1, a2⟩)
      · have z1 := hw (by omega)
        by_cases e : nl = i
        · subst e; exact Or.inl z1
        · rcases h5 nl i (by omega) a2 with z | z <;> exact Or.inl (by omega)
      · have z2 := h6 nm v (Nat.le_refl _) a1 a2
        omega
    · intro v
      constructor
      · rintro (⟨i, a1, a2, rfl⟩ | ⟨a1, a2⟩)
        · exact ⟨Or.inl ⟨i, a1, a2, rfl⟩, by have := h4 i a2; omega⟩
        · exact ⟨Or.inr ⟨by omega, a2⟩, by omega⟩
      · rintro ⟨⟨i, a1, a2, rfl⟩ | ⟨a1, a2⟩, hn⟩
        · exact Or.inl ⟨i, a1, a2, rfl⟩
        · exact Or.inr ⟨by omega, a2⟩
    · unfold SS
      rw [show nc - nm = (nc - (nm + 1)) + 1 by omega, ss_head]
      omega
/-- what holds behind j mergings: e, no node that is left weighs less -/
def INV (m : Nat) (lv : Nat → Nat) (c : Nat) (w0 : Nat → Nat) (W j nl nm : Nat) (w up : Nat → Nat) (e : Nat) : Prop :=
  ord lv w m c nl nm (m + j) ∧ ((c - nl) + (m + j - nm) + j = c) ∧ (∀ k, k < m → w k = w0 k) ∧ (∀ v, Ac lv c nl nm (m + j) v → e ≤ w v) ∧ (∀ k, nm ≤ k → k < m + j → w k ≤ 2 * e) ∧ (∀ v, up v ≠ 0 → nm ≤ up v → w v ≤ e) ∧
  (∀ v, up v ≠ 0 → v < up v ∧ m ≤ up v ∧ up v < m + j ∧ ¬ Ac lv c nl nm (m + j) v) ∧ (∀ v, Ac lv c 0 m (m + j) v → ¬ Ac lv c nl nm (m + j) v → up v ≠ 0) ∧ (∀ v, up v ≠ 0 → Ac lv c 0 m (m + j) v) ∧
  (∀ p, m ≤ p → p < m + j → ∃ a b, a ≠ b ∧ up a = p ∧ up b = p ∧ (∀ v, up v = p → v = a ∨ v = b) ∧ w p = w a + w b) ∧ (∀ v, Ac lv c 0 m (m + j) v → 1 ≤ w v) ∧ (∀ v, up v ≠ 0 → up (up v) ≠ 0 → w (up v) + w v ≤ w (up (up v))) ∧ SS lv w c nl nm (m + j) = W ∧ (∀ p, m ≤ p → p < m + j → (c - (p - m)) * w p ≤ 2 * W)
