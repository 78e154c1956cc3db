/-! ===== the law ===== -/
section LAW
variable {l : Launch} {D : va_G} {dA : Bool → ClassId}
theorem MD.mv {h h' : am_H} {S : sS} (x : MD h S) (e : ∀ j, 46 ≤ j → h' j = h j) : MD h' S := by
  obtain ⟨⟨en, fa, tc, hm⟩, hf, hw, ⟨gl, h49, hls⟩, m50, m51, m52, m53, m54, m55, m56, m57, m58, m59⟩ := x
  exact ⟨⟨en, fa, tc, (e 46 (by omega)).trans hm⟩, (e 47 (by omega)).trans hf, hw.at (e 48 (by omega)), ⟨gl, (e 49 (by omega)).trans h49, hls⟩, m50.at (e _ (by omega)), m51.at (e _ (by omega)), m52.at (e _ (by omega)), m53.at (e _ (by omega)), m54.at (e _ (by omega)), m55.at (e _ (by omega)), by rw [e 56 (by omega)]; exact m56, m57.at (e _ (by omega)), m58.at (e _ (by omega)), m59.at (e _ (by omega))⟩
theorem CL.mv {h h' : am_H} {S : sS} (x : CL h S) (e : ∀ j, j < 46 → h' j = h j) : CL h' S := by
  obtain ⟨⟨c0, c1, c2, c3, c4, c5, c6, c7, c8, c9, c10, c11, c12, c13, c14, c15, c16, c17, c18, c19, c20, c21⟩, h2⟩ := x
  exact ⟨⟨(e 0 (by omega)).trans c0, c1.at (e _ (by omega)) (e _ (by omega)), c2.at (e _ (by omega)) (e _ (by omega)), (e 5 (by omega)).trans c3, c4.at (fun j a b => e j (by omega)), c5.at (fun j a b => e j (by omega)), c6.at (fun j a b => e j (by omega)), c7.at (e _ (by omega)), c8.at (e _ (by omega)), c9.at (e _ (by omega)), by rw [e 30 (by omega)]; exact c10, by rw [e 31 (by omega)]; exact c11, by rw [e 32 (by omega)]; exact c12, by rw [e 33 (by omega)]; exact c13, by rw [e 34 (by omega)]; exact c14, c15.at (e _ (by omega)), c16.at (e _ (by omega)), c17.at (fun j a b => e j (by omega)), c18.at (e _ (by omega)), c19.at (e _ (by omega)), c20.at (e _ (by omega)), c21.at (e _ (by omega))⟩, (e 2 (by omega)).trans h2⟩
abbrev mLw (nm : String) : am_Y := (⟨RL, nm, "([I)Z"⟩, cL_law, 4, some .boolean)
set_option maxHeartbeats 4000000 in
set_option maxRecDepth 100000 in
theorem law_feed {nm : String} {n : Nat} {sc : Nat → Int32} (hn : n < 2 ^ 31) {i : Nat} (hi : i + 6 ≤ n) {h : am_H} {S : sS} (C : CL h S) (M : MD h S) (ok : OK S) (nxt : ∀ (S : sS) (H : am_H), CL H S → MD H S → OK S → am_At l D dA (mLw nm) 9 600000 7302249 60 70118 0 (some (n, sc)) (am_qi fun x _ => x = nI 1) 60 70118 420 [some (.inr (some none)), some (am_r 0), some (am_r 46), some (.inl (nI i))] [] H) : am_At l D dA (mLw nm) 9 600000 7302249 60 70118 0 (some (n, sc)) (am_qi fun x _ => x = nI 1) 60 70118 96 [some (.inr (some none)), some (am_r 0), some (am_r 46), some (.inl (nI i))] [] h := by
  obtain ⟨f, c, md, op, bl, co, cp, bi, ls⟩ := S
  obtain ⟨⟨en, fa, tc, hm⟩, -⟩ := id M
  refine am_aload_n dL_law_96 rfl rfl ?_
  refine am_aload_n dL_law_97 rfl rfl ?_
  refine am_iload_n dL_law_98 rfl rfl ?_
  refine am_iconst (v := nI 1) dL_law_99 rfl (by decide +kernel) ?_
  refine am_iadd dL_law_100 rfl ?_
  rw [nI_add]
  refine am_sld dL_law_101 rfl rfl (by omega) hn ?_
  refine am_aload_n dL_law_102 rfl rfl ?_
  refine am_iload_n dL_law_103 rfl rfl ?_
  refine am_iconst (v := nI 2) dL_law_104 rfl (by decide +kernel) ?_
  refine am_iadd dL_law_105 rfl ?_
  rw [nI_add]
  refine am_sld dL_law_106 rfl rfl (by omega) hn ?_
  refine am_aload_n dL_law_107 rfl rfl ?_
  refine am_iload_n dL_law_108 rfl rfl ?_
  refine am_iconst (v := nI 3) dL_law_109 rfl (by decide +kernel) ?_
  refine am_iadd dL_law_110 rfl ?_
  rw [nI_add]
  refine am_sld dL_law_111 rfl rfl (by omega) hn ?_
  refine am_aload_n dL_law_112 rfl rfl ?_
  refine am_iload_n dL_law_113 rfl rfl ?_
  refine am_iconst (v := nI 4) dL_law_114 rfl (by decide +kernel) ?_
  refine am_iadd dL_law_115 rfl ?_
  rw [nI_add]
  refine am_sld dL_law_116 rfl rfl (by omega) hn ?_
  refine am_aload_n dL_law_117 rfl rfl ?_
  refine am_iload_n dL_law_118 rfl rfl ?_
  refine am_iconst (v := nI 5) dL_law_119 rfl (by decide +kernel) ?_
  refine am_iadd dL_law_120 rfl ?_
  rw [nI_add]
  refine am_sld dL_law_121 rfl rfl (by omega) hn ?_
  refine am_vi (t_X9_feed 8 _ C ok (sc (i + 1)) (sc (i + 2)) (sc (i + 3)) (sc (i + 4)) (sc (i + 5)) (by omega)) k_X9_feed l_L_13 dL_law_122 rfl rfl rfl rfl C.1.c0 (by omega) (by omega) (by omega) (fun x1 h1 hx => ?_)
  obtain ⟨rfl, C1, E1⟩ := hx
  have M1 := M.mv E1
  have hm1 := (E1 46 (by omega)).trans hm
  refine am_aload_n dL_law_125 rfl rfl ?_
  refine am_aload_n dL_law_126 rfl rfl ?_
  refine am_iload_n dL_law_127 rfl rfl ?_
  refine am_iconst (v := nI 1) dL_law_128 rfl (by decide +kernel) ?_
  refine am_iadd dL_law_129 rfl ?_
  rw [nI_add]
  refine am_sld dL_law_130 rfl rfl (by omega) hn ?_
  refine am_aload_n dL_law_131 rfl rfl ?_
  refine am_iload_n dL_law_132 rfl rfl ?_
  refine am_iconst (v := nI 2) dL_law_133 rfl (by decide +kernel) ?_
  refine am_iadd dL_law_134 rfl ?_
  rw [nI_add]
  refine am_sld dL_law_135 rfl rfl (by omega) hn ?_
  refine am_aload_n dL_law_136 rfl rfl ?_
  refine am_iload_n dL_law_137 rfl rfl ?_
  refine am_iconst (v := nI 3) dL_law_138 rfl (by decide +kernel) ?_
  refine am_iadd dL_law_139 rfl ?_
  rw [nI_add]
  refine am_sld dL_law_140 rfl rfl (by omega) hn ?_
  refine am_aload_n dL_law_141 rfl rfl ?_
  refine am_iload_n dL_law_142 rfl rfl ?_
  refine am_iconst (v := nI 4) dL_law_143 rfl (by decide +kernel) ?_
  refine am_iadd dL_law_144 rfl ?_
  rw [nI_add]
  refine am_sld dL_law_145 rfl rfl (by omega) hn ?_
  refine am_aload_n dL_law_146 rfl rfl ?_
  refine am_iload_n dL_law_147 rfl rfl ?_
  refine am_iconst (v := nI 5) dL_law_148 rfl (by decide +kernel) ?_
  refine am_iadd dL_law_149 rfl ?_
  rw [nI_add]
  refine am_sld dL_law_150 rfl rfl (by omega) hn ?_
  refine am_vi (t_X10_feed 8 _ M1 ok (sc (i + 1)) (sc (i + 2)) (sc (i + 3)) (sc (i + 4)) (sc (i + 5))) k_X10_feed l_L_17 dL_law_151 rfl rfl rfl rfl hm1 (by omega) (by omega) (by omega) (fun x2 h2 hx => ?_)
  obtain ⟨rfl, M2, E2⟩ := hx
  refine am_icmp_eq 420 dL_law_154 rfl rfl (fun hc => ?_) (fun hc => ?_)
  · exact nxt _ h2 (C1.mv E2) M2 (OK_feed (sc (i + 1)) (sc (i + 2)) (sc (i + 3)) (sc (i + 4)) (sc (i + 5)) ok)
  · exact absurd rfl hc
set_option maxHeartbeats 4000000 in
set_option maxRecDepth 100000 in
theorem law_fill {nm : String} {n : Nat} {sc : Nat → Int32} (hn : n < 2 ^ 31) {i : Nat} (hi : i + 6 ≤ n) {h : am_H} {S : sS} (C : CL h S) (M : MD h S) (ok : OK S) (nxt : ∀ (S : sS) (H : am_H), CL H S → MD H S → OK S → am_At l D dA (mLw nm) 9 600000 7302249 60 70118 0 (some (n, sc)) (am_qi fun x _ => x = nI 1) 60 70118 420 [some (.inr (some none)), some (am_r 0), some (am_r 46), some (.inl (nI i))] [] H) : am_At l D dA (mLw nm) 9 600000 7302249 60 70118 0 (some (n, sc)) (am_qi fun x _ => x = nI 1) 60 70118 159 [some (.inr (some none)), some (am_r 0), some (am_r 46), some (.inl (nI i))] [] h := by
  obtain ⟨f, c, md, op, bl, co, cp, bi, ls⟩ := S
  obtain ⟨⟨en, fa, tc, hm⟩, -⟩ := id M
  refine am_aload_n dL_law_159 rfl rfl ?_
  refine am_aload_n dL_law_160 rfl rfl ?_
  refine am_iload_n dL_law_161 rfl rfl ?_
  refine am_iconst (v := nI 1) dL_law_162 rfl (by decide +kernel) ?_
  refine am_iadd dL_law_163 rfl ?_
  rw [nI_add]
  refine am_sld dL_law_164 rfl rfl (by omega) hn ?_
  refine am_aload_n dL_law_165 rfl rfl ?_
  refine am_iload_n dL_law_166 rfl rfl ?_
  refine am_iconst (v := nI 2) dL_law_167 rfl (by decide +kernel) ?_
  refine am_iadd dL_law_168 rfl ?_
  rw [nI_add]
  refine am_sld dL_law_169 rfl rfl (by omega) hn ?_
  refine am_vi (t_X9_fill 8 _ C ok (sc (i + 1)) (sc (i + 2)) (by omega)) k_X9_fill l_L_18 dL_law_170 rfl rfl rfl rfl C.1.c0 (by omega) (by omega) (by omega) (fun x1 h1 hx => ?_)
  obtain ⟨rfl, C1, E1⟩ := hx
  have M1 := M.mv E1
  have hm1 := (E1 46 (by omega)).trans hm
  refine am_aload_n dL_law_173 rfl rfl ?_
  refine am_aload_n dL_law_174 rfl rfl ?_
  refine am_iload_n dL_law_175 rfl rfl ?_
  refine am_iconst (v := nI 1) dL_law_176 rfl (by decide +kernel) ?_
  refine am_iadd dL_law_177 rfl ?_
  rw [nI_add]
  refine am_sld dL_law_178 rfl rfl (by omega) hn ?_
  refine am_aload_n dL_law_179 rfl rfl ?_
  refine am_iload_n dL_law_180 rfl rfl ?_
  refine am_iconst (v := nI 2) dL_law_181 rfl (by decide +kernel) ?_
  refine am_iadd dL_law_182 rfl ?_
  rw [nI_add]
  refine am_sld dL_law_183 rfl rfl (by omega) hn ?_
  refine am_vi (t_X10_fill 8 _ M1 ok (sc (i + 1)) (sc (i + 2))) k_X10_fill l_L_22 dL_law_184 rfl rfl rfl rfl hm1 (by omega) (by omega) (by omega) (fun x2 h2 hx => ?_)
  obtain ⟨rfl, M2, E2⟩ := hx
  refine am_icmp_eq 420 dL_law_187 rfl rfl (fun hc => ?_) (fun hc => ?_)
  · exact nxt _ h2 (C1.mv E2) M2 (OK_fill (sc (i + 1)) (sc (i + 2)) ok)
  · exact absurd rfl hc
set_option maxHeartbeats 4000000 in
set_option maxRecDepth 100000 in
theorem law_peek {nm : String} {n : Nat} {sc : Nat → Int32} (hn : n < 2 ^ 31) {i : Nat} (hi : i + 6 ≤ n) {h : am_H} {S : sS} (C : CL h S) (M : MD h S) (ok : OK S) (nxt : ∀ (S : sS) (H : am_H), CL H S → MD H S → OK S → am_At l D dA (mLw nm) 9 600000 7302249 60 70118 0 (some (n, sc)) (am_qi fun x _ => x = nI 1) 60 70118 420 [some (.inr (some none)), some (am_r 0), some (am_r 46), some (.inl (nI i))] [] H) : am_At l D dA (mLw nm) 9 600000 7302249 60 70118 0 (some (n, sc)) (am_qi fun x _ => x = nI 1) 60 70118 192 [some (.inr (some none)), some (am_r 0), some (am_r 46), some (.inl (nI i))] [] h := by
  obtain ⟨f, c, md, op, bl, co, cp, bi, ls⟩ := S
  obtain ⟨⟨en, fa, tc, hm⟩, -⟩ := id M
  refine am_aload_n dL_law_192 rfl rfl ?_
  refine am_aload_n dL_law_193 rfl rfl ?_
  refine am_iload_n dL_law_194 rfl rfl ?_
  refine am_iconst (v := nI 1) dL_law_195 rfl (by decide +kernel) ?_
  refine am_iadd dL_law_196 rfl ?_
  rw [nI_add]
  refine am_sld dL_law_197 rfl rfl (by omega) hn ?_
  refine am_vi (t_X9_peek 8 _ C ok (sc (i + 1)) (by omega)) k_X9_peek l_L_23 dL_law_198 rfl rfl rfl rfl C.1.c0 (by omega) (by omega) (by omega) (fun x1 h1 hx => ?_)
  obtain ⟨rfl, hh⟩ := hx
  obtain rfl := hh.symm
  refine am_aload_n dL_law_201 rfl rfl ?_
  refine am_aload_n dL_law_202 rfl rfl ?_
  refine am_iload_n dL_law_203 rfl rfl ?_
  refine am_iconst (v := nI 1) dL_law_204 rfl (by decide +kernel) ?_
  refine am_iadd dL_law_205 rfl ?_
  rw [nI_add]
  refine am_sld dL_law_206 rfl rfl (by omega) hn ?_
  refine am_vi (t_X10_peek 8 _ M ok (sc (i + 1))) k_X10_peek l_L_27 dL_law_207 rfl rfl rfl rfl hm (by omega) (by omega) (by omega) (fun x2 h2 hx => ?_)
  obtain ⟨rfl, hh⟩ := hx
  obtain rfl := hh.symm
  refine am_icmp_eq 420 dL_law_210 rfl rfl (fun hc => ?_) (fun hc => ?_)
  · exact nxt _ _ C M ok
  · exact absurd rfl hc
set_option maxHeartbeats 4000000 in
set_option maxRecDepth 100000 in
theorem law_poke {nm : String} {n : Nat} {sc : Nat → Int32} (hn : n < 2 ^ 31) {i : Nat} (hi : i + 6 ≤ n) {h : am_H} {S : sS} (C : CL h S) (M : MD h S) (ok : OK S) (nxt : ∀ (S : sS) (H : am_H), CL H S → MD H S → OK S → am_At l D dA (mLw nm) 9 600000 7302249 60 70118 0 (some (n, sc)) (am_qi fun x _ => x = nI 1) 60 70118 420 [some (.inr (some none)), some (am_r 0), some (am_r 46), some (.inl (nI i))] [] H) : am_At l D dA (mLw nm) 9 600000 7302249 60 70118 0 (some (n, sc)) (am_qi fun x _ => x = nI 1) 60 70118 215 [some (.inr (some none)), some (am_r 0), some (am_r 46), some (.inl (nI i))] [] h := by
  obtain ⟨f, c, md, op, bl, co, cp, bi, ls⟩ := S
  obtain ⟨⟨en, fa, tc, hm⟩, -⟩ := id M
  refine am_aload_n dL_law_215 rfl rfl ?_
  refine am_aload_n dL_law_216 rfl rfl ?_
  refine am_iload_n dL_law_217 rfl rfl ?_
  refine am_iconst (v := nI 1) dL_law_218 rfl (by decide +kernel) ?_
  refine am_iadd dL_law_219 rfl ?_
  rw [nI_add]
  refine am_sld dL_law_220 rfl rfl (by omega) hn ?_
  refine am_aload_n dL_law_221 rfl rfl ?_
  refine am_iload_n dL_law_222 rfl rfl ?_
  refine am_iconst (v := nI 2) dL_law_223 rfl (by decide +kernel) ?_
  refine am_iadd dL_law_224 rfl ?_
  rw [nI_add]
  refine am_sld dL_law_225 rfl rfl (by omega) hn ?_
  refine am_vi (t_X9_poke 8 _ C ok (sc (i + 1)) (sc (i + 2)) (by omega)) k_X9_poke l_L_28 dL_law_226 rfl rfl rfl rfl C.1.c0 (by omega) (by omega) (by omega) (fun x1 h1 hx => ?_)
  obtain ⟨rfl, C1, E1⟩ := hx
  have M1 := M.mv E1
  have hm1 := (E1 46 (by omega)).trans hm
  refine am_aload_n dL_law_229 rfl rfl ?_
  refine am_aload_n dL_law_230 rfl rfl ?_
  refine am_iload_n dL_law_231 rfl rfl ?_
  refine am_iconst (v := nI 1) dL_law_232 rfl (by decide +kernel) ?_
  refine am_iadd dL_law_233 rfl ?_
  rw [nI_add]
  refine am_sld dL_law_234 rfl rfl (by omega) hn ?_
  refine am_aload_n dL_law_235 rfl rfl ?_
  refine am_iload_n dL_law_236 rfl rfl ?_
  refine am_iconst (v := nI 2) dL_law_237 rfl (by decide +kernel) ?_
  refine am_iadd dL_law_238 rfl ?_
  rw [nI_add]
  refine am_sld dL_law_239 rfl rfl (by omega) hn ?_
  refine am_vi (t_X10_poke 8 _ M1 ok (sc (i + 1)) (sc (i + 2))) k_X10_poke l_L_32 dL_law_240 rfl rfl rfl rfl hm1 (by omega) (by omega) (by omega) (fun x2 h2 hx => ?_)
  obtain ⟨rfl, M2, E2⟩ := hx
  refine am_icmp_eq 420 dL_law_243 rfl rfl (fun hc => ?_) (fun hc => ?_)
  · exact nxt _ h2 (C1.mv E2) M2 (OK_poke (sc (i + 1)) (sc (i + 2)) ok)
  · exact absurd rfl hc
set_option maxHeartbeats 4000000 in
set_option maxRecDepth 100000 in
theorem law_clear {nm : String} {n : Nat} {sc : Nat → Int32} (hn : n < 2 ^ 31) {i : Nat} (hi : i + 6 ≤ n) {h : am_H} {S : sS} (C : CL h S) (M : MD h S) (ok : OK S) (nxt : ∀ (S : sS) (H : am_H), CL H S → MD H S → OK S → am_At l D dA (mLw nm) 9 600000 7302249 60 70118 0 (some (n, sc)) (am_qi fun x _ => x = nI 1) 60 70118 420 [some (.inr (some none)), some (am_r 0), some (am_r 46), some (.inl (nI i))] [] H) : am_At l D dA (mLw nm) 9 600000 7302249 60 70118 0 (some (n, sc)) (am_qi fun x _ => x = nI 1) 60 70118 248 [some (.inr (some none)), some (am_r 0), some (am_r 46), some (.inl (nI i))] [] h := by
  obtain ⟨f, c, md, op, bl, co, cp, bi, ls⟩ := S
  obtain ⟨⟨en, fa, tc, hm⟩, -⟩ := id M
  refine am_aload_n dL_law_248 rfl rfl ?_
  refine am_vv (t_X9_clear 8 _ C ok (by omega)) k_X9_clear l_L_33 dL_law_249 rfl rfl rfl rfl C.1.c0 (by omega) (by omega) (by omega) (fun h1 hx => ?_)
  obtain ⟨C1, E1⟩ := hx
  have M1 := M.mv E1
  have hm1 := (E1 46 (by omega)).trans hm
  refine am_aload_n dL_law_252 rfl rfl ?_
  refine am_vv (t_X10_clear 8 _ M1 ok) k_X10_clear l_L_36 dL_law_253 rfl rfl rfl rfl hm1 (by omega) (by omega) (by omega) (fun h2 hx => ?_)
  obtain ⟨M2, E2⟩ := hx
  refine am_goto 420 dL_law_256 rfl rfl ?_
  exact nxt _ h2 (C1.mv E2) M2 (OK_clear ok)
set_option maxHeartbeats 4000000 in
set_option maxRecDepth 100000 in
theorem law_read {nm : String} {n : Nat} {sc : Nat → Int32} (hn : n < 2 ^ 31) {i : Nat} (hi : i + 6 ≤ n) {h : am_H} {S : sS} (C : CL h S) (M : MD h S) (ok : OK S) (nxt : ∀ (S : sS) (H : am_H), CL H S → MD H S → OK S → am_At l D dA (mLw nm) 9 600000 7302249 60 70118 0 (some (n, sc)) (am_qi fun x _ => x = nI 1) 60 70118 420 [some (.inr (some none)), some (am_r 0), some (am_r 46), some (.inl (nI i))] [] H) : am_At l D dA (mLw nm) 9 600000 7302249 60 70118 0 (some (n, sc)) (am_qi fun x _ => x = nI 1) 60 70118 259 [some (.inr (some none)), some (am_r 0), some (am_r 46), some (.inl (nI i))] [] h := by
  obtain ⟨f, c, md, op, bl, co, cp, bi, ls⟩ := S
  obtain ⟨⟨en, fa, tc, hm⟩, -⟩ := id M
  refine am_aload_n dL_law_259 rfl rfl ?_
  refine am_aload_n dL_law_260 rfl rfl ?_
  refine am_iload_n dL_law_261 rfl rfl ?_
  refine am_iconst (v := nI 1) dL_law_262 rfl (by decide +kernel) ?_
  refine am_iadd dL_law_263 rfl ?_
  rw [nI_add]
  refine am_sld dL_law_264 rfl rfl (by omega) hn ?_
  refine am_aload_n dL_law_265 rfl rfl ?_
  refine am_iload_n dL_law_266 rfl rfl ?_
  refine am_iconst (v := nI 2) dL_law_267 rfl (by decide +kernel) ?_
  refine am_iadd dL_law_268 rfl ?_
  rw [nI_add]
  refine am_sld dL_law_269 rfl rfl (by omega) hn ?_
  refine am_vi (t_X9_read 8 _ C ok (sc (i + 1)) (sc (i + 2)) (by omega)) k_X9_read l_L_37 dL_law_270 rfl rfl rfl rfl C.1.c0 (by omega) (by omega) (by omega) (fun x1 h1 hx => ?_)
  obtain ⟨rfl, C1, E1⟩ := hx
  have M1 := M.mv E1
  have hm1 := (E1 46 (by omega)).trans hm
  refine am_aload_n dL_law_273 rfl rfl ?_
  refine am_aload_n dL_law_274 rfl rfl ?_
  refine am_iload_n dL_law_275 rfl rfl ?_
  refine am_iconst (v := nI 1) dL_law_276 rfl (by decide +kernel) ?_
  refine am_iadd dL_law_277 rfl ?_
  rw [nI_add]
  refine am_sld dL_law_278 rfl rfl (by omega) hn ?_
  refine am_aload_n dL_law_279 rfl rfl ?_
  refine am_iload_n dL_law_280 rfl rfl ?_
  refine am_iconst (v := nI 2) dL_law_281 rfl (by decide +kernel) ?_
  refine am_iadd dL_law_282 rfl ?_
  rw [nI_add]
  refine am_sld dL_law_283 rfl rfl (by omega) hn ?_
  refine am_vi (t_X10_read 8 _ M1 ok (sc (i + 1)) (sc (i + 2)) (by omega)) k_X10_read l_L_40 dL_law_284 rfl rfl rfl rfl hm1 (by omega) (by omega) (by omega) (fun x2 h2 hx => ?_)
  obtain ⟨rfl, M2, E2⟩ := hx
  refine am_icmp_eq 420 dL_law_287 rfl rfl (fun hc => ?_) (fun hc => ?_)
  · exact nxt _ h2 (C1.mv E2) M2 (OK_read (sc (i + 1)) (sc (i + 2)) ok)
  · exact absurd rfl hc
set_option maxHeartbeats 4000000 in
set_option maxRecDepth 100000 in
theorem law_write {nm : String} {n : Nat} {sc : Nat → Int32} (hn : n < 2 ^ 31) {i : Nat} (hi : i + 6 ≤ n) {h : am_H} {S : sS} (C : CL h S) (M : MD h S) (ok : OK S) (nxt : ∀ (S : sS) (H : am_H), CL H S → MD H S → OK S → am_At l D dA (mLw nm) 9 600000 7302249 60 70118 0 (some (n, sc)) (am_qi fun x _ => x = nI 1) 60 70118 420 [some (.inr (some none)), some (am_r 0), some (am_r 46), some (.inl (nI i))] [] H) : am_At l D dA (mLw nm) 9 600000 7302249 60 70118 0 (some (n, sc)) (am_qi fun x _ => x = nI 1) 60 70118 292 [some (.inr (some none)), some (am_r 0), some (am_r 46), some (.inl (nI i))] [] h := by
  obtain ⟨f, c, md, op, bl, co, cp, bi, ls⟩ := S
  obtain ⟨⟨en, fa, tc, hm⟩, -⟩ := id M
  refine am_aload_n dL_law_292 rfl rfl ?_
  refine am_aload_n dL_law_293 rfl rfl ?_
  refine am_iload_n dL_law_294 rfl rfl ?_
  refine am_iconst (v := nI 1) dL_law_295 rfl (by decide +kernel) ?_
  refine am_iadd dL_law_296 rfl ?_
  rw [nI_add]
  refine am_sld dL_law_297 rfl rfl (by omega) hn ?_
  refine am_vi (t_X9_write 8 _ C ok (sc (i + 1)) (by omega)) k_X9_write l_L_41 dL_law_298 rfl rfl rfl rfl C.1.c0 (by omega) (by omega) (by omega) (fun x1 h1 hx => ?_)
  obtain ⟨rfl, C1, E1⟩ := hx
  have M1 := M.mv E1
  have hm1 := (E1 46 (by omega)).trans hm
  refine am_aload_n dL_law_301 rfl rfl ?_
  refine am_aload_n dL_law_302 rfl rfl ?_
  refine am_iload_n dL_law_303 rfl rfl ?_
  refine am_iconst (v := nI 1) dL_law_304 rfl (by decide +kernel) ?_
  refine am_iadd dL_law_305 rfl ?_
  rw [nI_add]
  refine am_sld dL_law_306 rfl rfl (by omega) hn ?_
  refine am_vi (t_X10_write 8 _ M1 ok (sc (i + 1)) (by omega)) k_X10_write l_L_44 dL_law_307 rfl rfl rfl rfl hm1 (by omega) (by omega) (by omega) (fun x2 h2 hx => ?_)
  obtain ⟨rfl, M2, E2⟩ := hx
  refine am_icmp_eq 420 dL_law_310 rfl rfl (fun hc => ?_) (fun hc => ?_)
  · exact nxt _ h2 (C1.mv E2) M2 (OK_write (sc (i + 1)) ok)
  · exact absurd rfl hc
set_option maxHeartbeats 4000000 in
set_option maxRecDepth 100000 in
theorem law_back {nm : String} {n : Nat} {sc : Nat → Int32} (hn : n < 2 ^ 31) {i : Nat} (hi : i + 6 ≤ n) {h : am_H} {S : sS} (C : CL h S) (M : MD h S) (ok : OK S) (nxt : ∀ (S : sS) (H : am_H), CL H S → MD H S → OK S → am_At l D dA (mLw nm) 9 600000 7302249 60 70118 0 (some (n, sc)) (am_qi fun x _ => x = nI 1) 60 70118 420 [some (.inr (some none)), some (am_r 0), some (am_r 46), some (.inl (nI i))] [] H) : am_At l D dA (mLw nm) 9 600000 7302249 60 70118 0 (some (n, sc)) (am_qi fun x _ => x = nI 1) 60 70118 315 [some (.inr (some none)), some (am_r 0), some (am_r 46), some (.inl (nI i))] [] h := by
  obtain ⟨f, c, md, op, bl, co, cp, bi, ls⟩ := S
  obtain ⟨⟨en, fa, tc, hm⟩, -⟩ := id M
  refine am_aload_n dL_law_315 rfl rfl ?_
  refine am_vi (t_X9_back 8 _ C ok (by omega)) k_X9_back l_L_45 dL_law_316 rfl rfl rfl rfl C.1.c0 (by omega) (by omega) (by omega) (fun x1 h1 hx => ?_)
  obtain ⟨rfl, C1, E1⟩ := hx
  have M1 := M.mv E1
  have hm1 := (E1 46 (by omega)).trans hm
  refine am_aload_n dL_law_319 rfl rfl ?_
  refine am_vi (t_X10_back 8 _ M1 ok) k_X10_back l_L_49 dL_law_320 rfl rfl rfl rfl hm1 (by omega) (by omega) (by omega) (fun x2 h2 hx => ?_)
  obtain ⟨rfl, M2, E2⟩ := hx
  refine am_icmp_eq 420 dL_law_323 rfl rfl (fun hc => ?_) (fun hc => ?_)
  · exact nxt _ h2 (C1.mv E2) M2 (OK_back ok)
  · exact absurd rfl hc
set_option maxHeartbeats 4000000 in
set_option maxRecDepth 100000 in
theorem law_made {nm : String} {n : Nat} {sc : Nat → Int32} (hn : n < 2 ^ 31) {i : Nat} (hi : i + 6 ≤ n) {h : am_H} {S : sS} (C : CL h S) (M : MD h S) (ok : OK S) (nxt : ∀ (S : sS) (H : am_H), CL H S → MD H S → OK S → am_At l D dA (mLw nm) 9 600000 7302249 60 70118 0 (some (n, sc)) (am_qi fun x _ => x = nI 1) 60 70118 420 [some (.inr (some none)), some (am_r 0), some (am_r 46), some (.inl (nI i))] [] H) : am_At l D dA (mLw nm) 9 600000 7302249 60 70118 0 (some (n, sc)) (am_qi fun x _ => x = nI 1) 60 70118 328 [some (.inr (some none)), some (am_r 0), some (am_r 46), some (.inl (nI i))] [] h := by
  obtain ⟨f, c, md, op, bl, co, cp, bi, ls⟩ := S
  obtain ⟨⟨en, fa, tc, hm⟩, -⟩ := id M
  refine am_aload_n dL_law_328 rfl rfl ?_
  refine am_vi (t_X9_made 8 _ C ok (by omega)) k_X9_made l_L_50 dL_law_329 rfl rfl rfl rfl C.1.c0 (by omega) (by omega) (by omega) (fun x1 h1 hx => ?_)
  obtain ⟨rfl, hh⟩ := hx
  obtain rfl := hh.symm
  refine am_aload_n dL_law_332 rfl rfl ?_
  refine am_vi (t_X10_made 8 _ M ok) k_X10_made l_L_53 dL_law_333 rfl rfl rfl rfl hm (by omega) (by omega) (by omega) (fun x2 h2 hx => ?_)
  obtain ⟨rfl, hh⟩ := hx
  obtain rfl := hh.symm
  refine am_icmp_eq 420 dL_law_336 rfl rfl (fun hc => ?_) (fun hc => ?_)
  · exact nxt _ _ C M ok
  · exact absurd rfl hc
set_option maxHeartbeats 4000000 in
set_option maxRecDepth 100000 in
theorem law_out {nm : String} {n : Nat} {sc : Nat → Int32} (hn : n < 2 ^ 31) {i : Nat} (hi : i + 6 ≤ n) {h : am_H} {S : sS} (C : CL h S) (M : MD h S) (ok : OK S) (nxt : ∀ (S : sS) (H : am_H), CL H S → MD H S → OK S → am_At l D dA (mLw nm) 9 600000 7302249 60 70118 0 (some (n, sc)) (am_qi fun x _ => x = nI 1) 60 70118 420 [some (.inr (some none)), some (am_r 0), some (am_r 46), some (.inl (nI i))] [] H) : am_At l D dA (mLw nm) 9 600000 7302249 60 70118 0 (some (n, sc)) (am_qi fun x _ => x = nI 1) 60 70118 341 [some (.inr (some none)), some (am_r 0), some (am_r 46), some (.inl (nI i))] [] h := by
  obtain ⟨f, c, md, op, bl, co, cp, bi, ls⟩ := S
  obtain ⟨⟨en, fa, tc, hm⟩, -⟩ := id M
  refine am_aload_n dL_law_341 rfl rfl ?_
  refine am_aload_n dL_law_342 rfl rfl ?_
  refine am_iload_n dL_law_343 rfl rfl ?_
  refine am_iconst (v := nI 1) dL_law_344 rfl (by decide +kernel) ?_
  refine am_iadd dL_law_345 rfl ?_
  rw [nI_add]
  refine am_sld dL_law_346 rfl rfl (by omega) hn ?_
  refine am_vi (t_X9_out 8 _ C ok (sc (i + 1)) (by omega)) k_X9_out l_L_54 dL_law_347 rfl rfl rfl rfl C.1.c0 (by omega) (by omega) (by omega) (fun x1 h1 hx => ?_)
  obtain ⟨rfl, hh⟩ := hx
  obtain rfl := hh.symm
  refine am_aload_n dL_law_350 rfl rfl ?_
  refine am_aload_n dL_law_351 rfl rfl ?_
  refine am_iload_n dL_law_352 rfl rfl ?_
  refine am_iconst (v := nI 1) dL_law_353 rfl (by decide +kernel) ?_
  refine am_iadd dL_law_354 rfl ?_
  rw [nI_add]
  refine am_sld dL_law_355 rfl rfl (by omega) hn ?_
  refine am_vi (t_X10_out 8 _ M ok (sc (i + 1))) k_X10_out l_L_57 dL_law_356 rfl rfl rfl rfl hm (by omega) (by omega) (by omega) (fun x2 h2 hx => ?_)
  obtain ⟨rfl, hh⟩ := hx
  obtain rfl := hh.symm
  refine am_icmp_eq 420 dL_law_359 rfl rfl (fun hc => ?_) (fun hc => ?_)
  · exact nxt _ _ C M ok
  · exact absurd rfl hc
set_option maxHeartbeats 4000000 in
set_option maxRecDepth 100000 in
theorem law_told {nm : String} {n : Nat} {sc : Nat → Int32} (hn : n < 2 ^ 31) {i : Nat} (hi : i + 6 ≤ n) {h : am_H} {S : sS} (C : CL h S) (M : MD h S) (ok : OK S) (nxt : ∀ (S : sS) (H : am_H), CL H S → MD H S → OK S → am_At l D dA (mLw nm) 9 600000 7302249 60 70118 0 (some (n, sc)) (am_qi fun x _ => x = nI 1) 60 70118 420 [some (.inr (some none)), some (am_r 0), some (am_r 46), some (.inl (nI i))] [] H) : am_At l D dA (mLw nm) 9 600000 7302249 60 70118 0 (some (n, sc)) (am_qi fun x _ => x = nI 1) 60 70118 364 [some (.inr (some none)), some (am_r 0), some (am_r 46), some (.inl (nI i))] [] h := by
  obtain ⟨f, c, md, op, bl, co, cp, bi, ls⟩ := S
  obtain ⟨⟨en, fa, tc, hm⟩, -⟩ := id M
  refine am_aload_n dL_law_364 rfl rfl ?_
  refine am_aload_n dL_law_365 rfl rfl ?_
  refine am_iload_n dL_law_366 rfl rfl ?_
  refine am_iconst (v := nI 1) dL_law_367 rfl (by decide +kernel) ?_
  refine am_iadd dL_law_368 rfl ?_
  rw [nI_add]
  refine am_sld dL_law_369 rfl rfl (by omega) hn ?_
  refine am_vi (t_X9_told 8 _ C ok (sc (i + 1)) (by omega)) k_X9_told l_L_58 dL_law_370 rfl rfl rfl rfl C.1.c0 (by omega) (by omega) (by omega) (fun x1 h1 hx => ?_)
  obtain ⟨rfl, hh⟩ := hx
  obtain rfl := hh.symm
  refine am_aload_n dL_law_373 rfl rfl ?_
  refine am_aload_n dL_law_374 rfl rfl ?_
  refine am_iload_n dL_law_375 rfl rfl ?_
  refine am_iconst (v := nI 1) dL_law_376 rfl (by decide +kernel) ?_
  refine am_iadd dL_law_377 rfl ?_
  rw [nI_add]
  refine am_sld dL_law_378 rfl rfl (by omega) hn ?_
  refine am_vi (t_X10_told 8 _ M ok (sc (i + 1))) k_X10_told l_L_61 dL_law_379 rfl rfl rfl rfl hm (by omega) (by omega) (by omega) (fun x2 h2 hx => ?_)
  obtain ⟨rfl, hh⟩ := hx
  obtain rfl := hh.symm
  refine am_icmp_eq 420 dL_law_382 rfl rfl (fun hc => ?_) (fun hc => ?_)
  · exact nxt _ _ C M ok
  · exact absurd rfl hc
set_option maxHeartbeats 4000000 in
set_option maxRecDepth 100000 in
theorem law_length {nm : String} {n : Nat} {sc : Nat → Int32} (hn : n < 2 ^ 31) {i : Nat} (hi : i + 6 ≤ n) {h : am_H} {S : sS} (C : CL h S) (M : MD h S) (ok : OK S) (nxt : ∀ (S : sS) (H : am_H), CL H S → MD H S → OK S → am_At l D dA (mLw nm) 9 600000 7302249 60 70118 0 (some (n, sc)) (am_qi fun x _ => x = nI 1) 60 70118 420 [some (.inr (some none)), some (am_r 0), some (am_r 46), some (.inl (nI i))] [] H) : am_At l D dA (mLw nm) 9 600000 7302249 60 70118 0 (some (n, sc)) (am_qi fun x _ => x = nI 1) 60 70118 387 [some (.inr (some none)), some (am_r 0), some (am_r 46), some (.inl (nI i))] [] h := by
  obtain ⟨f, c, md, op, bl, co, cp, bi, ls⟩ := S
  obtain ⟨⟨en, fa, tc, hm⟩, -⟩ := id M
  refine am_aload_n dL_law_387 rfl rfl ?_
  refine am_aload_n dL_law_388 rfl rfl ?_
  refine am_iload_n dL_law_389 rfl rfl ?_
  refine am_iconst (v := nI 1) dL_law_390 rfl (by decide +kernel) ?_
  refine am_iadd dL_law_391 rfl ?_
  rw [nI_add]
  refine am_sld dL_law_392 rfl rfl (by omega) hn ?_
  refine am_aload_n dL_law_393 rfl rfl ?_
  refine am_iload_n dL_law_394 rfl rfl ?_
  refine am_iconst (v := nI 2) dL_law_395 rfl (by decide +kernel) ?_
  refine am_iadd dL_law_396 rfl ?_
  rw [nI_add]
  refine am_sld dL_law_397 rfl rfl (by omega) hn ?_
  refine am_vi (t_X9_length 8 _ C ok (sc (i + 1)) (sc (i + 2)) (by omega)) k_X9_length l_L_62 dL_law_398 rfl rfl rfl rfl C.1.c0 (by omega) (by omega) (by omega) (fun x1 h1 hx => ?_)
  obtain ⟨rfl, hh⟩ := hx
  obtain rfl := hh.symm
  refine am_aload_n dL_law_401 rfl rfl ?_
  refine am_aload_n dL_law_402 rfl rfl ?_
  refine am_iload_n dL_law_403 rfl rfl ?_
  refine am_iconst (v := nI 1) dL_law_404 rfl (by decide +kernel) ?_
  refine am_iadd dL_law_405 rfl ?_
  rw [nI_add]
  refine am_sld dL_law_406 rfl rfl (by omega) hn ?_
  refine am_aload_n dL_law_407 rfl rfl ?_
  refine am_iload_n dL_law_408 rfl rfl ?_
  refine am_iconst (v := nI 2) dL_law_409 rfl (by decide +kernel) ?_
  refine am_iadd dL_law_410 rfl ?_
  rw [nI_add]
  refine am_sld dL_law_411 rfl rfl (by omega) hn ?_
  refine am_vi (t_X10_length 8 _ M ok (sc (i + 1)) (sc (i + 2)) (by omega)) k_X10_length l_L_65 dL_law_412 rfl rfl rfl rfl hm (by omega) (by omega) (by omega) (fun x2 h2 hx => ?_)
  obtain ⟨rfl, hh⟩ := hx
  obtain rfl := hh.symm
  refine am_icmp_eq 420 dL_law_415 rfl rfl (fun hc => ?_) (fun hc => ?_)
  · exact nxt _ _ C M ok
  · exact absurd rfl hc
set_option maxHeartbeats 4000000 in
set_option maxRecDepth 100000 in
theorem law_loop {nm : String} {n : Nat} {sc : Nat → Int32} (hn : n < 2 ^ 31) : ∀ (q i : Nat) (h : am_H) (S : sS), n < i + q → i ≤ n → 6 ≤ n → CL h S → MD h S → OK S → am_At l D dA (mLw nm) 9 600000 7302249 60 70118 0 (some (n, sc)) (am_qi fun x _ => x = nI 1) 60 70118 18 [some (.inr (some none)), some (am_r 0), some (am_r 46), some (.inl (nI i))] [] h := by
  intro q
  induction q with
  | zero =>
    intro i h S hq hi h6 C M ok
    omega
  | succ q ih =>
    intro i h S hq hi h6 C M ok
    refine am_iload_n dL_law_18 rfl rfl ?_
    refine am_aload_n dL_law_19 rfl rfl ?_
    refine am_slen dL_law_20 rfl rfl ?_
    refine am_bipush (v := nI 6) dL_law_21 rfl (by decide +kernel) ?_
    refine am_isub dL_law_23 rfl ?_
    rw [pk_sub h6]
    refine am_ncmp_gt 426 dL_law_24 rfl rfl (by omega) (by omega) (fun hc => ?_) (fun hc => ?_)
    · refine am_iconst (v := nI 1) dL_law_426 rfl (by decide +kernel) ?_
      exact am_ri dL_law_427 rfl rfl rfl rfl
    · refine am_aload_n dL_law_27 rfl rfl ?_
      refine am_iload_n dL_law_28 rfl rfl ?_
      refine am_sld dL_law_29 rfl rfl (by omega) hn ?_
      refine am_bipush (v := nI 15) dL_law_30 rfl (by decide +kernel) ?_
      refine am_iand dL_law_32 rfl ?_
      obtain ⟨t, ht, et⟩ := pk_andE (sc i) (m := nI 15) 4 (by decide +kernel)
      rw [et]
      have nxt : ∀ (S : sS) (H : am_H), CL H S → MD H S → OK S → am_At l D dA (mLw nm) 9 600000 7302249 60 70118 0 (some (n, sc)) (am_qi fun x _ => x = nI 1) 60 70118 420 [some (.inr (some none)), some (am_r 0), some (am_r 46), some (.inl (nI i))] [] H := by
        intro S H C M ok
        refine am_iinc (v := nI (i + 6)) dL_law_420 rfl rfl (nI_add i 6) ?_
        refine am_goto 18 dL_law_423 rfl rfl ?_
        by_cases g : i + 6 ≤ n
        · exact ih (i + 6) H S (by omega) g h6 C M ok
        · omega
      rcases (show t = 0 ∨ t = 1 ∨ t = 2 ∨ t = 3 ∨ t = 4 ∨ t = 5 ∨ t = 6 ∨ t = 7 ∨ t = 8 ∨ t = 9 ∨ t = 10 ∨ t = 11 ∨ 12 ≤ t by omega) with rfl | rfl | rfl | rfl | rfl | rfl | rfl | rfl | rfl | rfl | rfl | rfl | h12
      · exact am_swIn (off := 63) 96 dL_law_33 rfl (by decide +kernel) (by decide +kernel) (by decide +kernel) rfl (law_feed hn (by omega) C M ok nxt)
      · exact am_swIn (off := 126) 159 dL_law_33 rfl (by decide +kernel) (by decide +kernel) (by decide +kernel) rfl (law_fill hn (by omega) C M ok nxt)
      · exact am_swIn (off := 159) 192 dL_law_33 rfl (by decide +kernel) (by decide +kernel) (by decide +kernel) rfl (law_peek hn (by omega) C M ok nxt)
      · exact am_swIn (off := 182) 215 dL_law_33 rfl (by decide +kernel) (by decide +kernel) (by decide +kernel) rfl (law_poke hn (by omega) C M ok nxt)
      · exact am_swIn (off := 215) 248 dL_law_33 rfl (by decide +kernel) (by decide +kernel) (by decide +kernel) rfl (law_clear hn (by omega) C M ok nxt)
      · exact am_swIn (off := 226) 259 dL_law_33 rfl (by decide +kernel) (by decide +kernel) (by decide +kernel) rfl (law_read hn (by omega) C M ok nxt)
      · exact am_swIn (off := 259) 292 dL_law_33 rfl (by decide +kernel) (by decide +kernel) (by decide +kernel) rfl (law_write hn (by omega) C M ok nxt)
      · exact am_swIn (off := 282) 315 dL_law_33 rfl (by decide +kernel) (by decide +kernel) (by decide +kernel) rfl (law_back hn (by omega) C M ok nxt)
      · exact am_swIn (off := 295) 328 dL_law_33 rfl (by decide +kernel) (by decide +kernel) (by decide +kernel) rfl (law_made hn (by omega) C M ok nxt)
      · exact am_swIn (off := 308) 341 dL_law_33 rfl (by decide +kernel) (by decide +kernel) (by decide +kernel) rfl (law_out hn (by omega) C M ok nxt)
      · exact am_swIn (off := 331) 364 dL_law_33 rfl (by decide +kernel) (by decide +kernel) (by decide +kernel) rfl (law_told hn (by omega) C M ok nxt)
      · exact am_swIn (off := 354) 387 dL_law_33 rfl (by decide +kernel) (by decide +kernel) (by decide +kernel) rfl (law_length hn (by omega) C M ok nxt)
      · exact am_swOut 420 dL_law_33 rfl (Or.inr (by rw [nI_toInt (by omega)]; omega)) rfl (nxt S h C M ok)
set_option maxHeartbeats 4000000 in
set_option maxRecDepth 100000 in
theorem law_all {nm : String} {n : Nat} {sc : Nat → Int32} (hn : n < 2 ^ 31) : am_At l D dA (mLw nm) 9 600000 7302249 60 70118 0 (some (n, sc)) (am_qi fun x _ => x = nI 1) 0 0 0 [some (.inr (some none)), none, none, none] [] (fun _ => none) := by
  refine am_nX9 (k := 0) (c' := 1) (s' := 5) (by omega) (by omega) (by omega) c_L_7 dL_law_0 rfl (by omega) (by omega) ?_
  refine am_dup dL_law_3 rfl ?_
  refine am_iv (n1 := 1) (c' := 46) (s' := 31892) (t_X9_init 8 am_set_eq (by omega)) (by omega) (by omega) (by omega) k_X9_init l_L_9 dL_law_4 rfl rfl rfl rfl (by omega) (by omega) (by omega) (fun h1 C0 => ?_)
  refine am_astore_n dL_law_7 rfl rfl ?_
  refine am_nX10 (k := 46) (c' := 47) (s' := 31915) (by omega) (by omega) (by omega) c_L_10 dL_law_8 rfl (by omega) (by omega) ?_
  refine am_dup dL_law_11 rfl ?_
  refine am_iv (n1 := 47) (c' := 60) (s' := 70118) (t_X10_init 8 am_set_eq (by omega)) (by omega) (by omega) (by omega) k_X10_init l_L_12 dL_law_12 rfl rfl rfl rfl (by omega) (by omega) (by omega) (fun h2 hx => ?_)
  obtain ⟨M0, E0⟩ := hx
  have C1 : CL h2 s0 := C0.mv (fun j hj => (E0 j hj).trans (am_set_ne (by omega)))
  refine am_astore_n dL_law_15 rfl rfl ?_
  refine am_iconst (v := nI 0) dL_law_16 rfl (by decide +kernel) ?_
  refine am_istore_n dL_law_17 rfl rfl ?_
  by_cases h6 : 6 ≤ n
  · exact law_loop hn (n + 1) 0 h2 s0 (by omega) (Nat.zero_le _) h6 C1 M0 s0_ok
  · skip
    refine am_iload_n dL_law_18 rfl rfl ?_
    refine am_aload_n dL_law_19 rfl rfl ?_
    refine am_slen dL_law_20 rfl rfl ?_
    refine am_bipush (v := nI 6) dL_law_21 rfl (by decide +kernel) ?_
    refine am_isub dL_law_23 rfl ?_
    refine am_icmp_gt 426 dL_law_24 rfl rfl (fun hc => ?_) (fun hc => ?_)
    · refine am_iconst (v := nI 1) dL_law_426 rfl (by decide +kernel) ?_
      exact am_ri dL_law_427 rfl rfl rfl rfl
    · refine absurd ?_ hc
      rcases (show n = 0 ∨ n = 1 ∨ n = 2 ∨ n = 3 ∨ n = 4 ∨ n = 5 by omega) with rfl | rfl | rfl | rfl | rfl | rfl <;> decide +kernel
end LAW
