/-! ===== what reading is: codes, a block, all blocks ===== -/
abbrev l3 : Type := (Nat → Nat) × (Nat → Nat) × (Nat → Nat)
def zN : Nat → Nat := fun _ => 0
noncomputable def cdsR (lenC : Nat → Nat) (alC : Int32) (lenP : Nat → Nat) (alP : Int32) (f : Nat → Int32) (E wa : Nat) : Nat → Nat → List Int32 → Nat → Nat → Nat × Nat × List Int32 × Nat × Nat
  | 0, k, bs, co, cp => (0, k, bs, co, cp)
  | q + 1, k, bs, co, cp => if wa ≤ bs.length then (0, k, bs, co, cp) else if (oneR lenC alC lenP alP f E wa k bs co cp).1 = 0 then cdsR lenC alC lenP alP f E wa q (oneR lenC alC lenP alP f E wa k bs co cp).2.1 (oneR lenC alC lenP alP f E wa k bs co cp).2.2.1 (oneR lenC alC lenP alP f E wa k bs co cp).2.2.2.1 (oneR lenC alC lenP alP f E wa k bs co cp).2.2.2.2 else oneR lenC alC lenP alP f E wa k bs co cp
noncomputable def tTR (f : Nat → Int32) (E k : Nat) : Nat × Nat × Int32 × (Nat → Nat) := treR f E 19 5 (fun n k => lnsR f E true n n 0 k (fun _ => 0)) k
noncomputable def tCR (f : Nat → Int32) (E : Nat) (lenT : Nat → Nat) (alT : Int32) (k : Nat) : Nat × Nat × Int32 × (Nat → Nat) := treR f E 510 9 (fun n k => lncR f E n lenT alT n 0 k (fun _ => 0)) k
noncomputable def tPR (f : Nat → Int32) (E k : Nat) : Nat × Nat × Int32 × (Nat → Nat) := treR f E 14 4 (fun n k => lnsR f E false n n 0 k (fun _ => 0)) k
noncomputable def blkR (f : Nat → Int32) (E wa k : Nat) (bs : List Int32) (co cp : Nat) : (Nat × Nat × List Int32 × Nat × Nat) × l3 :=
  if E < k + 16 then ((1, E, bs, co, cp), (zN, zN, zN))
  else if num f k 16 = 0 then ((6, k + 16, bs, co, cp), (zN, zN, zN))
  else if (tTR f E (k + 16)).1 ≠ 0 then (((tTR f E (k + 16)).1, (tTR f E (k + 16)).2.1, bs, co, cp), ((tTR f E (k + 16)).2.2.2, zN, zN))
  else if (tCR f E (tTR f E (k + 16)).2.2.2 (tTR f E (k + 16)).2.2.1 (tTR f E (k + 16)).2.1).1 ≠ 0 then (((tCR f E (tTR f E (k + 16)).2.2.2 (tTR f E (k + 16)).2.2.1 (tTR f E (k + 16)).2.1).1, (tCR f E (tTR f E (k + 16)).2.2.2 (tTR f E (k + 16)).2.2.1 (tTR f E (k + 16)).2.1).2.1, bs, co, cp), ((tTR f E (k + 16)).2.2.2, (tCR f E (tTR f E (k + 16)).2.2.2 (tTR f E (k + 16)).2.2.1 (tTR f E (k + 16)).2.1).2.2.2, zN))
  else if (tPR f E (tCR f E (tTR f E (k + 16)).2.2.2 (tTR f E (k + 16)).2.2.1 (tTR f E (k + 16)).2.1).2.1).1 ≠ 0 then (((tPR f E (tCR f E (tTR f E (k + 16)).2.2.2 (tTR f E (k + 16)).2.2.1 (tTR f E (k + 16)).2.1).2.1).1, (tPR f E (tCR f E (tTR f E (k + 16)).2.2.2 (tTR f E (k + 16)).2.2.1 (tTR f E (k + 16)).2.1).2.1).2.1, bs, co, cp), ((tTR f E (k + 16)).2.2.2, (tCR f E (tTR f E (k + 16)).2.2.2 (tTR f E (k + 16)).2.2.1 (tTR f E (k + 16)).2.1).2.2.2, (tPR f E (tCR f E (tTR f E (k + 16)).2.2.2 (tTR f E (k + 16)).2.2.1 (tTR f E (k + 16)).2.1).2.1).2.2.2))
  else (cdsR (tCR f E (tTR f E (k + 16)).2.2.2 (tTR f E (k + 16)).2.2.1 (tTR f E (k + 16)).2.1).2.2.2 (tCR f E (tTR f E (k + 16)).2.2.2 (tTR f E (k + 16)).2.2.1 (tTR f E (k + 16)).2.1).2.2.1 (tPR f E (tCR f E (tTR f E (k + 16)).2.2.2 (tTR f E (k + 16)).2.2.1 (tTR f E (k + 16)).2.1).2.1).2.2.2 (tPR f E (tCR f E (tTR f E (k + 16)).2.2.2 (tTR f E (k + 16)).2.2.1 (tTR f E (k + 16)).2.1).2.1).2.2.1 f E wa (num f k 16) (tPR f E (tCR f E (tTR f E (k + 16)).2.2.2 (tTR f E (k + 16)).2.2.1 (tTR f E (k + 16)).2.1).2.1).2.1 bs co cp, ((tTR f E (k + 16)).2.2.2, (tCR f E (tTR f E (k + 16)).2.2.2 (tTR f E (k + 16)).2.2.1 (tTR f E (k + 16)).2.1).2.2.2, (tPR f E (tCR f E (tTR f E (k + 16)).2.2.2 (tTR f E (k + 16)).2.2.1 (tTR f E (k + 16)).2.1).2.1).2.2.2))
noncomputable def unpR (f : Nat → Int32) (E wa : Nat) : Nat → Nat → List Int32 → Nat → Nat → Nat → l3 → (Nat × Nat × List Int32 × Nat × Nat) × Nat × l3
  | 0, k, bs, co, cp, bl, ls => ((0, k, bs, co, cp), bl, ls)
  | q + 1, k, bs, co, cp, bl, ls => if wa ≤ bs.length then ((0, k, bs, co, cp), bl, ls) else if (blkR f E wa k bs co cp).1.1 = 0 then unpR f E wa q (blkR f E wa k bs co cp).1.2.1 (blkR f E wa k bs co cp).1.2.2.1 (blkR f E wa k bs co cp).1.2.2.2.1 (blkR f E wa k bs co cp).1.2.2.2.2 (bl + 1) (blkR f E wa k bs co cp).2 else ((blkR f E wa k bs co cp).1, bl + 1, (blkR f E wa k bs co cp).2)
theorem oneR_lt (lenC : Nat → Nat) (alC : Int32) (lenP : Nat → Nat) (alP : Int32) (f : Nat → Int32) (E wa k : Nat) (bs : List Int32) (co cp : Nat) : (oneR lenC alC lenP alP f E wa k bs co cp).1 < 7 := by
  unfold oneR
  split
  · show 1 < 7; omega
  · split
    · show 0 < 7; omega
    · split
      · show 1 < 7; omega
      · split
        · show 4 < 7; omega
        · dsimp only
          split <;> omega
/-- a block's cells beside the rows of bytes -/
abbrev frU : List Nat := [3, 4, 5, 31, 6, 7, 8, 9, 10, 11, 12, 13, 14, 15, 16, 17, 18, 19, 20, 21, 22, 23, 24, 25, 26, 27, 28, 29]
theorem frU_not {j : Nat} (h : j ∉ frU) : (j < 3 ∨ 29 < j) ∧ j ≠ 31 := by
  simp only [frU, List.mem_cons, List.not_mem_nil, or_false, not_or] at h
  omega
theorem frU_in {j : Nat} (h : (3 ≤ j ∧ j ≤ 29) ∨ j = 31) : j ∈ frU := by
  simp only [frU, List.mem_cons, List.not_mem_nil, or_false]
  omega
