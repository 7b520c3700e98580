/-! ===== the law's cases ===== -/
def OPX {ρ : Type} (o1 o2 : Option (ρ × xSt)) : Prop := ∃ r σ' τ', o1 = some (r, σ') ∧ o2 = some (r, τ') ∧ RE σ' τ'
theorem inK {j k L : Nat} (h : j + k < L) (hL : L ≤ 2048) : vp_in (nI j + nI k) L := by
  rw [nI_add]; exact vp_in_nI h (by omega)
theorem OP.x {o1 o2 : Option (Int32 × xSt)} {l : Nat} {X : Nat → Nat} (h : OP o1 o2 l X) : OPX o1 o2 := by
  obtain ⟨r, σ', τ', h1, h2, h3, _⟩ := h
  exact ⟨r, σ', τ', h1, h2, h3.e⟩
section
variable {σ τ : xSt} {n C l b : Nat} {P T X : Nat → Nat}
theorem RR.q {o1 o2 : Option (Int32 × xSt)} (h : RR σ τ n C P T l X b) (h1 : ∃ r, o1 = some (r, σ) ∧ o2 = some (r, τ)) : OPX o1 o2 := by
  obtain ⟨r, a, b⟩ := h1
  exact ⟨r, σ, τ, a, b, h.e⟩
theorem p_letter (h : RR σ τ n C P T l X b) (a1 : Int32) : OPX (f_X6_letter a1 σ) (f_X7_letter a1 τ) := o_letter h a1
theorem p_blank (h : RR σ τ n C P T l X b) : OPX (f_X6_blank  σ) (f_X7_blank  τ) := o_blank h
theorem p_fault (h : RR σ τ n C P T l X b) (a1 : Int32) : OPX (f_X6_fault a1 σ) (f_X7_fault a1 τ) := o_fault h a1
theorem p_channel (h : RR σ τ n C P T l X b) : OPX (f_X6_channel  σ) (f_X7_channel  τ) := o_channel h
theorem p_say (h : RR σ τ n C P T l X b) : OPX (f_X6_say  σ) (f_X7_say  τ) := o_say h
theorem p_ink (h : RR σ τ n C P T l X b) (a1 : Int32) : OPX (f_X6_ink a1 σ) (f_X7_ink a1 τ) := by
  obtain ⟨r, h1, h2, _⟩ := o_ink h.1 h.2.1 a1
  exact h.q ⟨r, h1, h2⟩
theorem p_about (h : RR σ τ n C P T l X b) (a1 : Int32) : OPX (f_X6_about a1 σ) (f_X7_about a1 τ) := by
  obtain ⟨r, σ', τ', h1, h2, h3⟩ := o_about h a1
  exact ⟨r, σ', τ', h1, h2, h3.e⟩
theorem p_pin (h : RR σ τ n C P T l X b) (a1 a2 : Int32) : OPX (f_X6_pin a1 a2 σ) (f_X7_pin a1 a2 τ) := h.q (o_pin h.1.1 h.2.1.1 a1 a2)
theorem p_net (h : RR σ τ n C P T l X b) (a1 a2 : Int32) : OPX (f_X6_net a1 a2 σ) (f_X7_net a1 a2 τ) := h.q (o_net h.1 h.2.1 a1 a2)
theorem p_segment (h : RR σ τ n C P T l X b) (a1 a2 : Int32) : OPX (f_X6_segment a1 a2 σ) (f_X7_segment a1 a2 τ) := by
  obtain ⟨r, τ', h1, h2, h3, _⟩ := o_segment h.1 h.2.1 a1 a2
  exact ⟨r, σ, τ', h1, h2, (h.s11 h3).e⟩
theorem p_above (h : RR σ τ n C P T l X b) (a1 a2 : Int32) : OPX (f_X6_above a1 a2 σ) (f_X7_above a1 a2 τ) := h.q (o_above h.1 h.2.1 a1 a2)
theorem p_may (h : RR σ τ n C P T l X b) (a1 a2 : Int32) : OPX (f_X6_may a1 a2 σ) (f_X7_may a1 a2 τ) := h.q (o_may h.1 h.2.1 a1 a2)
theorem p_ring (h : RR σ τ n C P T l X b) (a1 : Int32) : OPX (f_X6_ring a1 σ) (f_X7_ring a1 τ) := h.q (o_ring h.1 h.2.1 a1)
theorem p_zone (h : RR σ τ n C P T l X b) (a1 : Int32) : OPX (f_X6_zone a1 σ) (f_X7_zone a1 τ) := h.q (o_zone h.1 h.2.1 a1)
theorem p_put (h : RR σ τ n C P T l X b) (a1 a2 a3 : Int32) : OPX (f_X6_put a1 a2 a3 σ) (f_X7_put a1 a2 a3 τ) := (o_put h a1 a2 a3).x
theorem p_turn (h : RR σ τ n C P T l X b) (a1 : Int32) : OPX (f_X6_turn a1 σ) (f_X7_turn a1 τ) := (o_turn h a1).x
theorem p_cut (h : RR σ τ n C P T l X b) (a1 : Int32) (bb : Bool) : OPX (f_X6_cut a1 (b2i bb) σ) (f_X7_cut a1 (b2i bb) τ) := (o_cut h a1 bb).x
theorem p_set (h : RR σ τ n C P T l X b) (a1 a2 : Int32) : OPX (f_X6_set a1 a2 σ) (f_X7_set a1 a2 τ) := (o_set h a1 a2).x
theorem p_clear (h : RR σ τ n C P T l X b) : OPX (f_X6_clear  σ) (f_X7_clear  τ) := (o_clear h).x
theorem p_pack (h : RR σ τ n C P T l X b) : OPX (f_X6_pack  σ) (f_X7_pack  τ) := (o_pack h).x
theorem p_best (h : RR σ τ n C P T l X b) : OPX (f_X6_best  σ) (f_X7_best  τ) := (o_best h).x
theorem p_cell (h : RR σ τ n C P T l X b) (a1 a2 a3 : Int32) : OPX (f_X6_cell a1 a2 a3 σ) (f_X7_cell a1 a2 a3 τ) := h.q (o_cell h.1 h.2.1 a1 a2 a3)
theorem p_count (h : RR σ τ n C P T l X b) (a1 : Int32) : OPX (f_X6_count a1 σ) (f_X7_count a1 τ) := by
  obtain ⟨r, h1, h2⟩ := o_count h a1
  exact h.q ⟨r, h1, by rw [f_X7_count, h2, bnd_some]⟩
theorem p_digest (h : RR σ τ n C P T l X b) : OPX (f_X6_digest  σ) (f_X7_digest  τ) := o_digest h
end
theorem lcase_0 {p : Program} {l : Launch} {e : Env} {s : State} {m : MethodId} {below : List Frame} {meth : Method} {c : Code} {b L : Nat} {xs : Nat → Int32} {D : va_G} {cI : ClassId} {ac am : Nat → Nat} {σ τ : xSt} {j : Nat} (X : LX p s m meth c b L xs D cI ac am) (hj : j + 4 ≤ L) (h : RE σ τ) (k : ∀ σ' τ', RE σ' τ' → LJ p l e s m below meth c b D cI ac am (nI j) 753 [] σ' τ') : LJ p l e s m below meth c b D cI ac am (nI j) 144 [] σ τ := by
  obtain ⟨n1, C1, P1, T1, l1, X1, b1, hR⟩ := h
  have hL := X.2.2.2.2.2.2.2
  obtain ⟨r, σ', τ', o1, o2, o3⟩ := p_letter hR (xs (nI j + 1).toNatClampNeg)
  refine l_x X dL_144 ?_
  refine l_arg X (v := 1) rfl (inK (k := 1) (by omega) hL) dL_145 dL_146 dL_147 dL_148 dL_149 ?_
  refine l_cC (κ' := κi) (av := [.int (xs (nI j + 1).toNatClampNeg)]) (S := []) X dL_150 lc_law_13 (c_X6_letter _ _) o1 rfl rfl rfl rfl rfl rfl ?_
  refine l_m X dL_153 ?_
  refine l_arg X (v := 1) rfl (inK (k := 1) (by omega) hL) dL_154 dL_155 dL_156 dL_157 dL_158 ?_
  refine l_cM (κ' := κi) (av := [.int (xs (nI j + 1).toNatClampNeg)]) (S := [.int r]) X dL_159 lc_law_17 (c_X7_letter _ _) o2 rfl rfl rfl rfl rfl rfl ?_
  exact l_eq X dL_162 (by decide) (k σ' τ' o3)
theorem lcase_1 {p : Program} {l : Launch} {e : Env} {s : State} {m : MethodId} {below : List Frame} {meth : Method} {c : Code} {b L : Nat} {xs : Nat → Int32} {D : va_G} {cI : ClassId} {ac am : Nat → Nat} {σ τ : xSt} {j : Nat} (X : LX p s m meth c b L xs D cI ac am) (hj : j + 4 ≤ L) (h : RE σ τ) (k : ∀ σ' τ', RE σ' τ' → LJ p l e s m below meth c b D cI ac am (nI j) 753 [] σ' τ') : LJ p l e s m below meth c b D cI ac am (nI j) 167 [] σ τ := by
  obtain ⟨n1, C1, P1, T1, l1, X1, b1, hR⟩ := h
  have hL := X.2.2.2.2.2.2.2
  obtain ⟨r, σ', τ', o1, o2, o3⟩ := p_blank hR
  refine l_x X dL_167 ?_
  refine l_cC (κ' := κi) (av := []) (S := []) X dL_168 lc_law_18 (c_X6_blank _) o1 rfl rfl rfl rfl rfl rfl ?_
  refine l_m X dL_171 ?_
  refine l_cM (κ' := κi) (av := []) (S := [.int r]) X dL_172 lc_law_22 (c_X7_blank _) o2 rfl rfl rfl rfl rfl rfl ?_
  exact l_eq X dL_175 (by decide) (k σ' τ' o3)
theorem lcase_2 {p : Program} {l : Launch} {e : Env} {s : State} {m : MethodId} {below : List Frame} {meth : Method} {c : Code} {b L : Nat} {xs : Nat → Int32} {D : va_G} {cI : ClassId} {ac am : Nat → Nat} {σ τ : xSt} {j : Nat} (X : LX p s m meth c b L xs D cI ac am) (hj : j + 4 ≤ L) (h : RE σ τ) (k : ∀ σ' τ', RE σ' τ' → LJ p l e s m below meth c b D cI ac am (nI j) 753 [] σ' τ') : LJ p l e s m below meth c b D cI ac am (nI j) 180 [] σ τ := by
  obtain ⟨n1, C1, P1, T1, l1, X1, b1, hR⟩ := h
  have hL := X.2.2.2.2.2.2.2
  obtain ⟨r, σ', τ', o1, o2, o3⟩ := p_fault hR (xs (nI j + 1).toNatClampNeg)
  refine l_x X dL_180 ?_
  refine l_arg X (v := 1) rfl (inK (k := 1) (by omega) hL) dL_181 dL_182 dL_183 dL_184 dL_185 ?_
  refine l_cC (κ' := κi) (av := [.int (xs (nI j + 1).toNatClampNeg)]) (S := []) X dL_186 lc_law_23 (c_X6_fault _ _) o1 rfl rfl rfl rfl rfl rfl ?_
  refine l_m X dL_189 ?_
  refine l_arg X (v := 1) rfl (inK (k := 1) (by omega) hL) dL_190 dL_191 dL_192 dL_193 dL_194 ?_
  refine l_cM (κ' := κi) (av := [.int (xs (nI j + 1).toNatClampNeg)]) (S := [.int r]) X dL_195 lc_law_26 (c_X7_fault _ _) o2 rfl rfl rfl rfl rfl rfl ?_
  exact l_eq X dL_198 (by decide) (k σ' τ' o3)
theorem lcase_3 {p : Program} {l : Launch} {e : Env} {s : State} {m : MethodId} {below : List Frame} {meth : Method} {c : Code} {b L : Nat} {xs : Nat → Int32} {D : va_G} {cI : ClassId} {ac am : Nat → Nat} {σ τ : xSt} {j : Nat} (X : LX p s m meth c b L xs D cI ac am) (hj : j + 4 ≤ L) (h : RE σ τ) (k : ∀ σ' τ', RE σ' τ' → LJ p l e s m below meth c b D cI ac am (nI j) 753 [] σ' τ') : LJ p l e s m below meth c b D cI ac am (nI j) 203 [] σ τ := by
  obtain ⟨n1, C1, P1, T1, l1, X1, b1, hR⟩ := h
  have hL := X.2.2.2.2.2.2.2
  obtain ⟨r, σ', τ', o1, o2, o3⟩ := p_channel hR
  refine l_x X dL_203 ?_
  refine l_cC (κ' := κi) (av := []) (S := []) X dL_204 lc_law_27 (c_X6_channel _) o1 rfl rfl rfl rfl rfl rfl ?_
  refine l_m X dL_207 ?_
  refine l_cM (κ' := κi) (av := []) (S := [.int r]) X dL_208 lc_law_30 (c_X7_channel _) o2 rfl rfl rfl rfl rfl rfl ?_
  exact l_eq X dL_211 (by decide) (k σ' τ' o3)
theorem lcase_4 {p : Program} {l : Launch} {e : Env} {s : State} {m : MethodId} {below : List Frame} {meth : Method} {c : Code} {b L : Nat} {xs : Nat → Int32} {D : va_G} {cI : ClassId} {ac am : Nat → Nat} {σ τ : xSt} {j : Nat} (X : LX p s m meth c b L xs D cI ac am) (hj : j + 4 ≤ L) (h : RE σ τ) (k : ∀ σ' τ', RE σ' τ' → LJ p l e s m below meth c b D cI ac am (nI j) 753 [] σ' τ') : LJ p l e s m below meth c b D cI ac am (nI j) 216 [] σ τ := by
  obtain ⟨n1, C1, P1, T1, l1, X1, b1, hR⟩ := h
  have hL := X.2.2.2.2.2.2.2
  obtain ⟨r, σ', τ', o1, o2, o3⟩ := p_say hR
  refine l_x X dL_216 ?_
  refine l_cC (κ' := κi) (av := []) (S := []) X dL_217 lc_law_31 (c_X6_say _) o1 rfl rfl rfl rfl rfl rfl ?_
  refine l_m X dL_220 ?_
  refine l_cM (κ' := κi) (av := []) (S := [.int r]) X dL_221 lc_law_34 (c_X7_say _) o2 rfl rfl rfl rfl rfl rfl ?_
  exact l_eq X dL_224 (by decide) (k σ' τ' o3)
theorem lcase_5 {p : Program} {l : Launch} {e : Env} {s : State} {m : MethodId} {below : List Frame} {meth : Method} {c : Code} {b L : Nat} {xs : Nat → Int32} {D : va_G} {cI : ClassId} {ac am : Nat → Nat} {σ τ : xSt} {j : Nat} (X : LX p s m meth c b L xs D cI ac am) (hj : j + 4 ≤ L) (h : RE σ τ) (k : ∀ σ' τ', RE σ' τ' → LJ p l e s m below meth c b D cI ac am (nI j) 753 [] σ' τ') : LJ p l e s m below meth c b D cI ac am (nI j) 229 [] σ τ := by
  obtain ⟨n1, C1, P1, T1, l1, X1, b1, hR⟩ := h
  have hL := X.2.2.2.2.2.2.2
  obtain ⟨r, σ', τ', o1, o2, o3⟩ := p_ink hR (xs (nI j + 1).toNatClampNeg)
  refine l_x X dL_229 ?_
  refine l_arg X (v := 1) rfl (inK (k := 1) (by omega) hL) dL_230 dL_231 dL_232 dL_233 dL_234 ?_
  refine l_cC (κ' := κi) (av := [.int (xs (nI j + 1).toNatClampNeg)]) (S := []) X dL_235 lc_law_35 (c_X6_ink _ _) o1 rfl rfl rfl rfl rfl rfl ?_
  refine l_m X dL_238 ?_
  refine l_arg X (v := 1) rfl (inK (k := 1) (by omega) hL) dL_239 dL_240 dL_241 dL_242 dL_243 ?_
  refine l_cM (κ' := κi) (av := [.int (xs (nI j + 1).toNatClampNeg)]) (S := [.int r]) X dL_244 lc_law_38 (c_X7_ink _ _) o2 rfl rfl rfl rfl rfl rfl ?_
  exact l_eq X dL_247 (by decide) (k σ' τ' o3)
theorem lcase_6 {p : Program} {l : Launch} {e : Env} {s : State} {m : MethodId} {below : List Frame} {meth : Method} {c : Code} {b L : Nat} {xs : Nat → Int32} {D : va_G} {cI : ClassId} {ac am : Nat → Nat} {σ τ : xSt} {j : Nat} (X : LX p s m meth c b L xs D cI ac am) (hj : j + 4 ≤ L) (h : RE σ τ) (k : ∀ σ' τ', RE σ' τ' → LJ p l e s m below meth c b D cI ac am (nI j) 753 [] σ' τ') : LJ p l e s m below meth c b D cI ac am (nI j) 252 [] σ τ := by
  obtain ⟨n1, C1, P1, T1, l1, X1, b1, hR⟩ := h
  have hL := X.2.2.2.2.2.2.2
  obtain ⟨r, σ', τ', o1, o2, o3⟩ := p_about hR (xs (nI j + 1).toNatClampNeg)
  refine l_x X dL_252 ?_
  refine l_arg X (v := 1) rfl (inK (k := 1) (by omega) hL) dL_253 dL_254 dL_255 dL_256 dL_257 ?_
  refine l_cC (κ' := κi) (av := [.int (xs (nI j + 1).toNatClampNeg)]) (S := []) X dL_258 lc_law_39 (c_X6_about _ _) o1 rfl rfl rfl rfl rfl rfl ?_
  refine l_m X dL_261 ?_
  refine l_arg X (v := 1) rfl (inK (k := 1) (by omega) hL) dL_262 dL_263 dL_264 dL_265 dL_266 ?_
  refine l_cM (κ' := κi) (av := [.int (xs (nI j + 1).toNatClampNeg)]) (S := [.int r]) X dL_267 lc_law_42 (c_X7_about _ _) o2 rfl rfl rfl rfl rfl rfl ?_
  exact l_eq X dL_270 (by decide) (k σ' τ' o3)
theorem lcase_7 {p : Program} {l : Launch} {e : Env} {s : State} {m : MethodId} {below : List Frame} {meth : Method} {c : Code} {b L : Nat} {xs : Nat → Int32} {D : va_G} {cI : ClassId} {ac am : Nat → Nat} {σ τ : xSt} {j : Nat} (X : LX p s m meth c b L xs D cI ac am) (hj : j + 4 ≤ L) (h : RE σ τ) (k : ∀ σ' τ', RE σ' τ' → LJ p l e s m below meth c b D cI ac am (nI j) 753 [] σ' τ') : LJ p l e s m below meth c b D cI ac am (nI j) 275 [] σ τ := by
  obtain ⟨n1, C1, P1, T1, l1, X1, b1, hR⟩ := h
  have hL := X.2.2.2.2.2.2.2
  obtain ⟨r, σ', τ', o1, o2, o3⟩ := p_pin hR (xs (nI j + 1).toNatClampNeg) (xs (nI j + 2).toNatClampNeg)
  refine l_x X dL_275 ?_
  refine l_arg X (v := 1) rfl (inK (k := 1) (by omega) hL) dL_276 dL_277 dL_278 dL_279 dL_280 ?_
  refine l_arg X (v := 2) rfl (inK (k := 2) (by omega) hL) dL_281 dL_282 dL_283 dL_284 dL_285 ?_
  refine l_cC (κ' := κi) (av := [.int (xs (nI j + 1).toNatClampNeg), .int (xs (nI j + 2).toNatClampNeg)]) (S := []) X dL_286 lc_law_43 (c_X6_pin _ _ _) o1 rfl rfl rfl rfl rfl rfl ?_
  refine l_m X dL_289 ?_
  refine l_arg X (v := 1) rfl (inK (k := 1) (by omega) hL) dL_290 dL_291 dL_292 dL_293 dL_294 ?_
  refine l_arg X (v := 2) rfl (inK (k := 2) (by omega) hL) dL_295 dL_296 dL_297 dL_298 dL_299 ?_
  refine l_cM (κ' := κi) (av := [.int (xs (nI j + 1).toNatClampNeg), .int (xs (nI j + 2).toNatClampNeg)]) (S := [.int r]) X dL_300 lc_law_47 (c_X7_pin _ _ _) o2 rfl rfl rfl rfl rfl rfl ?_
  exact l_eq X dL_303 (by decide) (k σ' τ' o3)
theorem lcase_8 {p : Program} {l : Launch} {e : Env} {s : State} {m : MethodId} {below : List Frame} {meth : Method} {c : Code} {b L : Nat} {xs : Nat → Int32} {D : va_G} {cI : ClassId} {ac am : Nat → Nat} {σ τ : xSt} {j : Nat} (X : LX p s m meth c b L xs D cI ac am) (hj : j + 4 ≤ L) (h : RE σ τ) (k : ∀ σ' τ', RE σ' τ' → LJ p l e s m below meth c b D cI ac am (nI j) 753 [] σ' τ') : LJ p l e s m below meth c b D cI ac am (nI j) 308 [] σ τ := by
  obtain ⟨n1, C1, P1, T1, l1, X1, b1, hR⟩ := h
  have hL := X.2.2.2.2.2.2.2
  obtain ⟨r, σ', τ', o1, o2, o3⟩ := p_net hR (xs (nI j + 1).toNatClampNeg) (xs (nI j + 2).toNatClampNeg)
  refine l_x X dL_308 ?_
  refine l_arg X (v := 1) rfl (inK (k := 1) (by omega) hL) dL_309 dL_310 dL_311 dL_312 dL_313 ?_
  refine l_arg X (v := 2) rfl (inK (k := 2) (by omega) hL) dL_314 dL_315 dL_316 dL_317 dL_318 ?_
  refine l_cC (κ' := κi) (av := [.int (xs (nI j + 1).toNatClampNeg), .int (xs (nI j + 2).toNatClampNeg)]) (S := []) X dL_319 lc_law_48 (c_X6_net _ _ _) o1 rfl rfl rfl rfl rfl rfl ?_
  refine l_m X dL_322 ?_
  refine l_arg X (v := 1) rfl (inK (k := 1) (by omega) hL) dL_323 dL_324 dL_325 dL_326 dL_327 ?_
  refine l_arg X (v := 2) rfl (inK (k := 2) (by omega) hL) dL_328 dL_329 dL_330 dL_331 dL_332 ?_
  refine l_cM (κ' := κi) (av := [.int (xs (nI j + 1).toNatClampNeg), .int (xs (nI j + 2).toNatClampNeg)]) (S := [.int r]) X dL_333 lc_law_51 (c_X7_net _ _ _) o2 rfl rfl rfl rfl rfl rfl ?_
  exact l_eq X dL_336 (by decide) (k σ' τ' o3)
theorem lcase_9 {p : Program} {l : Launch} {e : Env} {s : State} {m : MethodId} {below : List Frame} {meth : Method} {c : Code} {b L : Nat} {xs : Nat → Int32} {D : va_G} {cI : ClassId} {ac am : Nat → Nat} {σ τ : xSt} {j : Nat} (X : LX p s m meth c b L xs D cI ac am) (hj : j + 4 ≤ L) (h : RE σ τ) (k : ∀ σ' τ', RE σ' τ' → LJ p l e s m below meth c b D cI ac am (nI j) 753 [] σ' τ') : LJ p l e s m below meth c b D cI ac am (nI j) 341 [] σ τ := by
  obtain ⟨n1, C1, P1, T1, l1, X1, b1, hR⟩ := h
  have hL := X.2.2.2.2.2.2.2
  obtain ⟨r, σ', τ', o1, o2, o3⟩ := p_segment hR (xs (nI j + 1).toNatClampNeg) (xs (nI j + 2).toNatClampNeg)
  refine l_x X dL_341 ?_
  refine l_arg X (v := 1) rfl (inK (k := 1) (by omega) hL) dL_342 dL_343 dL_344 dL_345 dL_346 ?_
  refine l_arg X (v := 2) rfl (inK (k := 2) (by omega) hL) dL_347 dL_348 dL_349 dL_350 dL_351 ?_
  refine l_cC (κ' := κi) (av := [.int (xs (nI j + 1).toNatClampNeg), .int (xs (nI j + 2).toNatClampNeg)]) (S := []) X dL_352 lc_law_52 (c_X6_segment _ _ _) o1 rfl rfl rfl rfl rfl rfl ?_
  refine l_m X dL_355 ?_
  refine l_arg X (v := 1) rfl (inK (k := 1) (by omega) hL) dL_356 dL_357 dL_358 dL_359 dL_360 ?_
  refine l_arg X (v := 2) rfl (inK (k := 2) (by omega) hL) dL_361 dL_362 dL_363 dL_364 dL_365 ?_
  refine l_cM (κ' := κi) (av := [.int (xs (nI j + 1).toNatClampNeg), .int (xs (nI j + 2).toNatClampNeg)]) (S := [.int r]) X dL_366 lc_law_55 (c_X7_segment _ _ _) o2 rfl rfl rfl rfl rfl rfl ?_
  exact l_eq X dL_369 (by decide) (k σ' τ' o3)
theorem lcase_10 {p : Program} {l : Launch} {e : Env} {s : State} {m : MethodId} {below : List Frame} {meth : Method} {c : Code} {b L : Nat} {xs : Nat → Int32} {D : va_G} {cI : ClassId} {ac am : Nat → Nat} {σ τ : xSt} {j : Nat} (X : LX p s m meth c b L xs D cI ac am) (hj : j + 4 ≤ L) (h : RE σ τ) (k : ∀ σ' τ', RE σ' τ' → LJ p l e s m below meth c b D cI ac am (nI j) 753 [] σ' τ') : LJ p l e s m below meth c b D cI ac am (nI j) 374 [] σ τ := by
  obtain ⟨n1, C1, P1, T1, l1, X1, b1, hR⟩ := h
  have hL := X.2.2.2.2.2.2.2
  obtain ⟨r, σ', τ', o1, o2, o3⟩ := p_above hR (xs (nI j + 1).toNatClampNeg) (xs (nI j + 2).toNatClampNeg)
  refine l_x X dL_374 ?_
  refine l_arg X (v := 1) rfl (inK (k := 1) (by omega) hL) dL_375 dL_376 dL_377 dL_378 dL_379 ?_
  refine l_arg X (v := 2) rfl (inK (k := 2) (by omega) hL) dL_380 dL_381 dL_382 dL_383 dL_384 ?_
  refine l_cC (κ' := κi) (av := [.int (xs (nI j + 1).toNatClampNeg), .int (xs (nI j + 2).toNatClampNeg)]) (S := []) X dL_385 lc_law_56 (c_X6_above _ _ _) o1 rfl rfl rfl rfl rfl rfl ?_
  refine l_m X dL_388 ?_
  refine l_arg X (v := 1) rfl (inK (k := 1) (by omega) hL) dL_389 dL_390 dL_391 dL_392 dL_393 ?_
  refine l_arg X (v := 2) rfl (inK (k := 2) (by omega) hL) dL_394 dL_395 dL_396 dL_397 dL_398 ?_
  refine l_cM (κ' := κi) (av := [.int (xs (nI j + 1).toNatClampNeg), .int (xs (nI j + 2).toNatClampNeg)]) (S := [.int r]) X dL_399 lc_law_59 (c_X7_above _ _ _) o2 rfl rfl rfl rfl rfl rfl ?_
  exact l_eq X dL_402 (by decide) (k σ' τ' o3)
theorem lcase_11 {p : Program} {l : Launch} {e : Env} {s : State} {m : MethodId} {below : List Frame} {meth : Method} {c : Code} {b L : Nat} {xs : Nat → Int32} {D : va_G} {cI : ClassId} {ac am : Nat → Nat} {σ τ : xSt} {j : Nat} (X : LX p s m meth c b L xs D cI ac am) (hj : j + 4 ≤ L) (h : RE σ τ) (k : ∀ σ' τ', RE σ' τ' → LJ p l e s m below meth c b D cI ac am (nI j) 753 [] σ' τ') : LJ p l e s m below meth c b D cI ac am (nI j) 407 [] σ τ := by
  obtain ⟨n1, C1, P1, T1, l1, X1, b1, hR⟩ := h
  have hL := X.2.2.2.2.2.2.2
  obtain ⟨r, σ', τ', o1, o2, o3⟩ := p_may hR (xs (nI j + 1).toNatClampNeg) (xs (nI j + 2).toNatClampNeg)
  refine l_x X dL_407 ?_
  refine l_arg X (v := 1) rfl (inK (k := 1) (by omega) hL) dL_408 dL_409 dL_410 dL_411 dL_412 ?_
  refine l_arg X (v := 2) rfl (inK (k := 2) (by omega) hL) dL_413 dL_414 dL_415 dL_416 dL_417 ?_
  refine l_cC (κ' := κi) (av := [.int (xs (nI j + 1).toNatClampNeg), .int (xs (nI j + 2).toNatClampNeg)]) (S := []) X dL_418 lc_law_60 (c_X6_may _ _ _) o1 rfl rfl rfl rfl rfl rfl ?_
  refine l_m X dL_421 ?_
  refine l_arg X (v := 1) rfl (inK (k := 1) (by omega) hL) dL_422 dL_423 dL_424 dL_425 dL_426 ?_
  refine l_arg X (v := 2) rfl (inK (k := 2) (by omega) hL) dL_427 dL_428 dL_429 dL_430 dL_431 ?_
  refine l_cM (κ' := κi) (av := [.int (xs (nI j + 1).toNatClampNeg), .int (xs (nI j + 2).toNatClampNeg)]) (S := [.int r]) X dL_432 lc_law_63 (c_X7_may _ _ _) o2 rfl rfl rfl rfl rfl rfl ?_
  exact l_eq X dL_435 (by decide) (k σ' τ' o3)
theorem lcase_12 {p : Program} {l : Launch} {e : Env} {s : State} {m : MethodId} {below : List Frame} {meth : Method} {c : Code} {b L : Nat} {xs : Nat → Int32} {D : va_G} {cI : ClassId} {ac am : Nat → Nat} {σ τ : xSt} {j : Nat} (X : LX p s m meth c b L xs D cI ac am) (hj : j + 4 ≤ L) (h : RE σ τ) (k : ∀ σ' τ', RE σ' τ' → LJ p l e s m below meth c b D cI ac am (nI j) 753 [] σ' τ') : LJ p l e s m below meth c b D cI ac am (nI j) 440 [] σ τ := by
  obtain ⟨n1, C1, P1, T1, l1, X1, b1, hR⟩ := h
  have hL := X.2.2.2.2.2.2.2
  obtain ⟨r, σ', τ', o1, o2, o3⟩ := p_ring hR (xs (nI j + 1).toNatClampNeg)
  refine l_x X dL_440 ?_
  refine l_arg X (v := 1) rfl (inK (k := 1) (by omega) hL) dL_441 dL_442 dL_443 dL_444 dL_445 ?_
  refine l_cC (κ' := κi) (av := [.int (xs (nI j + 1).toNatClampNeg)]) (S := []) X dL_446 lc_law_64 (c_X6_ring _ _) o1 rfl rfl rfl rfl rfl rfl ?_
  refine l_m X dL_449 ?_
  refine l_arg X (v := 1) rfl (inK (k := 1) (by omega) hL) dL_450 dL_451 dL_452 dL_453 dL_454 ?_
  refine l_cM (κ' := κi) (av := [.int (xs (nI j + 1).toNatClampNeg)]) (S := [.int r]) X dL_455 lc_law_67 (c_X7_ring _ _) o2 rfl rfl rfl rfl rfl rfl ?_
  exact l_eq X dL_458 (by decide) (k σ' τ' o3)
theorem lcase_13 {p : Program} {l : Launch} {e : Env} {s : State} {m : MethodId} {below : List Frame} {meth : Method} {c : Code} {b L : Nat} {xs : Nat → Int32} {D : va_G} {cI : ClassId} {ac am : Nat → Nat} {σ τ : xSt} {j : Nat} (X : LX p s m meth c b L xs D cI ac am) (hj : j + 4 ≤ L) (h : RE σ τ) (k : ∀ σ' τ', RE σ' τ' → LJ p l e s m below meth c b D cI ac am (nI j) 753 [] σ' τ') : LJ p l e s m below meth c b D cI ac am (nI j) 463 [] σ τ := by
  obtain ⟨n1, C1, P1, T1, l1, X1, b1, hR⟩ := h
  have hL := X.2.2.2.2.2.2.2
  obtain ⟨r, σ', τ', o1, o2, o3⟩ := p_zone hR (xs (nI j + 1).toNatClampNeg)
  refine l_x X dL_463 ?_
  refine l_arg X (v := 1) rfl (inK (k := 1) (by omega) hL) dL_464 dL_465 dL_466 dL_467 dL_468 ?_
  refine l_cC (κ' := κi) (av := [.int (xs (nI j + 1).toNatClampNeg)]) (S := []) X dL_469 lc_law_68 (c_X6_zone _ _) o1 rfl rfl rfl rfl rfl rfl ?_
  refine l_m X dL_472 ?_
  refine l_arg X (v := 1) rfl (inK (k := 1) (by omega) hL) dL_473 dL_474 dL_475 dL_476 dL_477 ?_
  refine l_cM (κ' := κi) (av := [.int (xs (nI j + 1).toNatClampNeg)]) (S := [.int r]) X dL_478 lc_law_71 (c_X7_zone _ _) o2 rfl rfl rfl rfl rfl rfl ?_
  exact l_eq X dL_481 (by decide) (k σ' τ' o3)
theorem lcase_14 {p : Program} {l : Launch} {e : Env} {s : State} {m : MethodId} {below : List Frame} {meth : Method} {c : Code} {b L : Nat} {xs : Nat → Int32} {D : va_G} {cI : ClassId} {ac am : Nat → Nat} {σ τ : xSt} {j : Nat} (X : LX p s m meth c b L xs D cI ac am) (hj : j + 4 ≤ L) (h : RE σ τ) (k : ∀ σ' τ', RE σ' τ' → LJ p l e s m below meth c b D cI ac am (nI j) 753 [] σ' τ') : LJ p l e s m below meth c b D cI ac am (nI j) 486 [] σ τ := by
  obtain ⟨n1, C1, P1, T1, l1, X1, b1, hR⟩ := h
  have hL := X.2.2.2.2.2.2.2
  obtain ⟨r, σ', τ', o1, o2, o3⟩ := p_put hR (xs (nI j + 1).toNatClampNeg) (xs (nI j + 2).toNatClampNeg) (xs (nI j + 3).toNatClampNeg)
  refine l_x X dL_486 ?_
  refine l_arg X (v := 1) rfl (inK (k := 1) (by omega) hL) dL_487 dL_488 dL_489 dL_490 dL_491 ?_
  refine l_arg X (v := 2) rfl (inK (k := 2) (by omega) hL) dL_492 dL_493 dL_494 dL_495 dL_496 ?_
  refine l_arg X (v := 3) rfl (inK (k := 3) (by omega) hL) dL_497 dL_498 dL_499 dL_500 dL_501 ?_
  refine l_cC (κ' := κi) (av := [.int (xs (nI j + 1).toNatClampNeg), .int (xs (nI j + 2).toNatClampNeg), .int (xs (nI j + 3).toNatClampNeg)]) (S := []) X dL_502 lc_law_72 (c_X6_put _ _ _ _) o1 rfl rfl rfl rfl rfl rfl ?_
  refine l_m X dL_505 ?_
  refine l_arg X (v := 1) rfl (inK (k := 1) (by omega) hL) dL_506 dL_507 dL_508 dL_509 dL_510 ?_
  refine l_arg X (v := 2) rfl (inK (k := 2) (by omega) hL) dL_511 dL_512 dL_513 dL_514 dL_515 ?_
  refine l_arg X (v := 3) rfl (inK (k := 3) (by omega) hL) dL_516 dL_517 dL_518 dL_519 dL_520 ?_
  refine l_cM (κ' := κi) (av := [.int (xs (nI j + 1).toNatClampNeg), .int (xs (nI j + 2).toNatClampNeg), .int (xs (nI j + 3).toNatClampNeg)]) (S := [.int r]) X dL_521 lc_law_76 (c_X7_put _ _ _ _) o2 rfl rfl rfl rfl rfl rfl ?_
  exact l_eq X dL_524 (by decide) (k σ' τ' o3)
theorem lcase_15 {p : Program} {l : Launch} {e : Env} {s : State} {m : MethodId} {below : List Frame} {meth : Method} {c : Code} {b L : Nat} {xs : Nat → Int32} {D : va_G} {cI : ClassId} {ac am : Nat → Nat} {σ τ : xSt} {j : Nat} (X : LX p s m meth c b L xs D cI ac am) (hj : j + 4 ≤ L) (h : RE σ τ) (k : ∀ σ' τ', RE σ' τ' → LJ p l e s m below meth c b D cI ac am (nI j) 753 [] σ' τ') : LJ p l e s m below meth c b D cI ac am (nI j) 529 [] σ τ := by
  obtain ⟨n1, C1, P1, T1, l1, X1, b1, hR⟩ := h
  have hL := X.2.2.2.2.2.2.2
  obtain ⟨r, σ', τ', o1, o2, o3⟩ := p_turn hR (xs (nI j + 1).toNatClampNeg)
  refine l_x X dL_529 ?_
  refine l_arg X (v := 1) rfl (inK (k := 1) (by omega) hL) dL_530 dL_531 dL_532 dL_533 dL_534 ?_
  refine l_cC (κ' := κi) (av := [.int (xs (nI j + 1).toNatClampNeg)]) (S := []) X dL_535 lc_law_77 (c_X6_turn _ _) o1 rfl rfl rfl rfl rfl rfl ?_
  refine l_m X dL_538 ?_
  refine l_arg X (v := 1) rfl (inK (k := 1) (by omega) hL) dL_539 dL_540 dL_541 dL_542 dL_543 ?_
  refine l_cM (κ' := κi) (av := [.int (xs (nI j + 1).toNatClampNeg)]) (S := [.int r]) X dL_544 lc_law_80 (c_X7_turn _ _) o2 rfl rfl rfl rfl rfl rfl ?_
  exact l_eq X dL_547 (by decide) (k σ' τ' o3)
theorem lcase_16 {p : Program} {l : Launch} {e : Env} {s : State} {m : MethodId} {below : List Frame} {meth : Method} {c : Code} {b L : Nat} {xs : Nat → Int32} {D : va_G} {cI : ClassId} {ac am : Nat → Nat} {σ τ : xSt} {j : Nat} (X : LX p s m meth c b L xs D cI ac am) (hj : j + 4 ≤ L) (h : RE σ τ) (k : ∀ σ' τ', RE σ' τ' → LJ p l e s m below meth c b D cI ac am (nI j) 753 [] σ' τ') : LJ p l e s m below meth c b D cI ac am (nI j) 552 [] σ τ := by
  obtain ⟨n1, C1, P1, T1, l1, X1, b1, hR⟩ := h
  have hL := X.2.2.2.2.2.2.2
  obtain ⟨r, σ', τ', o1, o2, o3⟩ := p_cut hR (xs (nI j + 1).toNatClampNeg) (!decide (xs (nI j + 2).toNatClampNeg = 0))
  refine l_x X dL_552 ?_
  refine l_arg X (v := 1) rfl (inK (k := 1) (by omega) hL) dL_553 dL_554 dL_555 dL_556 dL_557 ?_
  refine l_arg X (v := 2) rfl (inK (k := 2) (by omega) hL) dL_558 dL_559 dL_560 dL_561 dL_562 ?_
  refine l_nz X dL_563 (by decide) dL_566 dL_567 (by decide) dL_570 ?_
  refine l_cC (κ' := κi) (av := [.int (xs (nI j + 1).toNatClampNeg), .int (b2i (!decide (xs (nI j + 2).toNatClampNeg = 0)))]) (S := []) X dL_571 lc_law_81 (c_X6_cut _ _ _) o1 rfl rfl rfl rfl rfl rfl ?_
  refine l_m X dL_574 ?_
  refine l_arg X (v := 1) rfl (inK (k := 1) (by omega) hL) dL_575 dL_576 dL_577 dL_578 dL_579 ?_
  refine l_arg X (v := 2) rfl (inK (k := 2) (by omega) hL) dL_580 dL_581 dL_582 dL_583 dL_584 ?_
  refine l_nz X dL_585 (by decide) dL_588 dL_589 (by decide) dL_592 ?_
  refine l_cM (κ' := κi) (av := [.int (xs (nI j + 1).toNatClampNeg), .int (b2i (!decide (xs (nI j + 2).toNatClampNeg = 0)))]) (S := [.int r]) X dL_593 lc_law_85 (c_X7_cut _ _ _) o2 rfl rfl rfl rfl rfl rfl ?_
  exact l_eq X dL_596 (by decide) (k σ' τ' o3)
theorem lcase_17 {p : Program} {l : Launch} {e : Env} {s : State} {m : MethodId} {below : List Frame} {meth : Method} {c : Code} {b L : Nat} {xs : Nat → Int32} {D : va_G} {cI : ClassId} {ac am : Nat → Nat} {σ τ : xSt} {j : Nat} (X : LX p s m meth c b L xs D cI ac am) (hj : j + 4 ≤ L) (h : RE σ τ) (k : ∀ σ' τ', RE σ' τ' → LJ p l e s m below meth c b D cI ac am (nI j) 753 [] σ' τ') : LJ p l e s m below meth c b D cI ac am (nI j) 601 [] σ τ := by
  obtain ⟨n1, C1, P1, T1, l1, X1, b1, hR⟩ := h
  have hL := X.2.2.2.2.2.2.2
  obtain ⟨r, σ', τ', o1, o2, o3⟩ := p_set hR (xs (nI j + 1).toNatClampNeg) (xs (nI j + 2).toNatClampNeg)
  refine l_x X dL_601 ?_
  refine l_arg X (v := 1) rfl (inK (k := 1) (by omega) hL) dL_602 dL_603 dL_604 dL_605 dL_606 ?_
  refine l_arg X (v := 2) rfl (inK (k := 2) (by omega) hL) dL_607 dL_608 dL_609 dL_610 dL_611 ?_
  refine l_cC (κ' := κi) (av := [.int (xs (nI j + 1).toNatClampNeg), .int (xs (nI j + 2).toNatClampNeg)]) (S := []) X dL_612 lc_law_86 (c_X6_set _ _ _) o1 rfl rfl rfl rfl rfl rfl ?_
  refine l_m X dL_615 ?_
  refine l_arg X (v := 1) rfl (inK (k := 1) (by omega) hL) dL_616 dL_617 dL_618 dL_619 dL_620 ?_
  refine l_arg X (v := 2) rfl (inK (k := 2) (by omega) hL) dL_621 dL_622 dL_623 dL_624 dL_625 ?_
  refine l_cM (κ' := κi) (av := [.int (xs (nI j + 1).toNatClampNeg), .int (xs (nI j + 2).toNatClampNeg)]) (S := [.int r]) X dL_626 lc_law_89 (c_X7_set _ _ _) o2 rfl rfl rfl rfl rfl rfl ?_
  exact l_eq X dL_629 (by decide) (k σ' τ' o3)
theorem lcase_18 {p : Program} {l : Launch} {e : Env} {s : State} {m : MethodId} {below : List Frame} {meth : Method} {c : Code} {b L : Nat} {xs : Nat → Int32} {D : va_G} {cI : ClassId} {ac am : Nat → Nat} {σ τ : xSt} {j : Nat} (X : LX p s m meth c b L xs D cI ac am) (hj : j + 4 ≤ L) (h : RE σ τ) (k : ∀ σ' τ', RE σ' τ' → LJ p l e s m below meth c b D cI ac am (nI j) 753 [] σ' τ') : LJ p l e s m below meth c b D cI ac am (nI j) 634 [] σ τ := by
  obtain ⟨n1, C1, P1, T1, l1, X1, b1, hR⟩ := h
  have hL := X.2.2.2.2.2.2.2
  obtain ⟨r, σ', τ', o1, o2, o3⟩ := p_clear hR
  refine l_x X dL_634 ?_
  refine l_cC (κ' := κi) (av := []) (S := []) X dL_635 lc_law_90 (c_X6_clear _) o1 rfl rfl rfl rfl rfl rfl ?_
  refine l_m X dL_638 ?_
  refine l_cM (κ' := κi) (av := []) (S := [.int r]) X dL_639 lc_law_93 (c_X7_clear _) o2 rfl rfl rfl rfl rfl rfl ?_
  exact l_eq X dL_642 (by decide) (k σ' τ' o3)
theorem lcase_19 {p : Program} {l : Launch} {e : Env} {s : State} {m : MethodId} {below : List Frame} {meth : Method} {c : Code} {b L : Nat} {xs : Nat → Int32} {D : va_G} {cI : ClassId} {ac am : Nat → Nat} {σ τ : xSt} {j : Nat} (X : LX p s m meth c b L xs D cI ac am) (hj : j + 4 ≤ L) (h : RE σ τ) (k : ∀ σ' τ', RE σ' τ' → LJ p l e s m below meth c b D cI ac am (nI j) 753 [] σ' τ') : LJ p l e s m below meth c b D cI ac am (nI j) 647 [] σ τ := by
  obtain ⟨n1, C1, P1, T1, l1, X1, b1, hR⟩ := h
  have hL := X.2.2.2.2.2.2.2
  obtain ⟨r, σ', τ', o1, o2, o3⟩ := p_pack hR
  refine l_x X dL_647 ?_
  refine l_cC (κ' := κi) (av := []) (S := []) X dL_648 lc_law_94 (c_X6_pack _) o1 rfl rfl rfl rfl rfl rfl ?_
  refine l_m X dL_651 ?_
  refine l_cM (κ' := κi) (av := []) (S := [.int r]) X dL_652 lc_law_97 (c_X7_pack _) o2 rfl rfl rfl rfl rfl rfl ?_
  exact l_eq X dL_655 (by decide) (k σ' τ' o3)
theorem lcase_20 {p : Program} {l : Launch} {e : Env} {s : State} {m : MethodId} {below : List Frame} {meth : Method} {c : Code} {b L : Nat} {xs : Nat → Int32} {D : va_G} {cI : ClassId} {ac am : Nat → Nat} {σ τ : xSt} {j : Nat} (X : LX p s m meth c b L xs D cI ac am) (hj : j + 4 ≤ L) (h : RE σ τ) (k : ∀ σ' τ', RE σ' τ' → LJ p l e s m below meth c b D cI ac am (nI j) 753 [] σ' τ') : LJ p l e s m below meth c b D cI ac am (nI j) 660 [] σ τ := by
  obtain ⟨n1, C1, P1, T1, l1, X1, b1, hR⟩ := h
  have hL := X.2.2.2.2.2.2.2
  obtain ⟨r, σ', τ', o1, o2, o3⟩ := p_best hR
  refine l_x X dL_660 ?_
  refine l_cC (κ' := κi) (av := []) (S := []) X dL_661 lc_law_98 (c_X6_best _) o1 rfl rfl rfl rfl rfl rfl ?_
  refine l_m X dL_664 ?_
  refine l_cM (κ' := κi) (av := []) (S := [.int r]) X dL_665 lc_law_101 (c_X7_best _) o2 rfl rfl rfl rfl rfl rfl ?_
  exact l_eq X dL_668 (by decide) (k σ' τ' o3)
theorem lcase_21 {p : Program} {l : Launch} {e : Env} {s : State} {m : MethodId} {below : List Frame} {meth : Method} {c : Code} {b L : Nat} {xs : Nat → Int32} {D : va_G} {cI : ClassId} {ac am : Nat → Nat} {σ τ : xSt} {j : Nat} (X : LX p s m meth c b L xs D cI ac am) (hj : j + 4 ≤ L) (h : RE σ τ) (k : ∀ σ' τ', RE σ' τ' → LJ p l e s m below meth c b D cI ac am (nI j) 753 [] σ' τ') : LJ p l e s m below meth c b D cI ac am (nI j) 673 [] σ τ := by
  obtain ⟨n1, C1, P1, T1, l1, X1, b1, hR⟩ := h
  have hL := X.2.2.2.2.2.2.2
  obtain ⟨r, σ', τ', o1, o2, o3⟩ := p_cell hR (xs (nI j + 1).toNatClampNeg) (xs (nI j + 2).toNatClampNeg) (xs (nI j + 3).toNatClampNeg)
  refine l_x X dL_673 ?_
  refine l_arg X (v := 1) rfl (inK (k := 1) (by omega) hL) dL_674 dL_675 dL_676 dL_677 dL_678 ?_
  refine l_arg X (v := 2) rfl (inK (k := 2) (by omega) hL) dL_679 dL_680 dL_681 dL_682 dL_683 ?_
  refine l_arg X (v := 3) rfl (inK (k := 3) (by omega) hL) dL_684 dL_685 dL_686 dL_687 dL_688 ?_
  refine l_cC (κ' := κi) (av := [.int (xs (nI j + 1).toNatClampNeg), .int (xs (nI j + 2).toNatClampNeg), .int (xs (nI j + 3).toNatClampNeg)]) (S := []) X dL_689 lc_law_102 (c_X6_cell _ _ _ _) o1 rfl rfl rfl rfl rfl rfl ?_
  refine l_m X dL_692 ?_
  refine l_arg X (v := 1) rfl (inK (k := 1) (by omega) hL) dL_693 dL_694 dL_695 dL_696 dL_697 ?_
  refine l_arg X (v := 2) rfl (inK (k := 2) (by omega) hL) dL_698 dL_699 dL_700 dL_701 dL_702 ?_
  refine l_arg X (v := 3) rfl (inK (k := 3) (by omega) hL) dL_703 dL_704 dL_705 dL_706 dL_707 ?_
  refine l_cM (κ' := κi) (av := [.int (xs (nI j + 1).toNatClampNeg), .int (xs (nI j + 2).toNatClampNeg), .int (xs (nI j + 3).toNatClampNeg)]) (S := [.int r]) X dL_708 lc_law_105 (c_X7_cell _ _ _ _) o2 rfl rfl rfl rfl rfl rfl ?_
  exact l_eq X dL_711 (by decide) (k σ' τ' o3)
theorem lcase_22 {p : Program} {l : Launch} {e : Env} {s : State} {m : MethodId} {below : List Frame} {meth : Method} {c : Code} {b L : Nat} {xs : Nat → Int32} {D : va_G} {cI : ClassId} {ac am : Nat → Nat} {σ τ : xSt} {j : Nat} (X : LX p s m meth c b L xs D cI ac am) (hj : j + 4 ≤ L) (h : RE σ τ) (k : ∀ σ' τ', RE σ' τ' → LJ p l e s m below meth c b D cI ac am (nI j) 753 [] σ' τ') : LJ p l e s m below meth c b D cI ac am (nI j) 716 [] σ τ := by
  obtain ⟨n1, C1, P1, T1, l1, X1, b1, hR⟩ := h
  have hL := X.2.2.2.2.2.2.2
  obtain ⟨r, σ', τ', o1, o2, o3⟩ := p_count hR (xs (nI j + 1).toNatClampNeg)
  refine l_x X dL_716 ?_
  refine l_arg X (v := 1) rfl (inK (k := 1) (by omega) hL) dL_717 dL_718 dL_719 dL_720 dL_721 ?_
  refine l_cC (κ' := κi) (av := [.int (xs (nI j + 1).toNatClampNeg)]) (S := []) X dL_722 lc_law_106 (c_X6_count _ _) o1 rfl rfl rfl rfl rfl rfl ?_
  refine l_m X dL_725 ?_
  refine l_arg X (v := 1) rfl (inK (k := 1) (by omega) hL) dL_726 dL_727 dL_728 dL_729 dL_730 ?_
  refine l_cM (κ' := κi) (av := [.int (xs (nI j + 1).toNatClampNeg)]) (S := [.int r]) X dL_731 lc_law_109 (c_X7_count _ _) o2 rfl rfl rfl rfl rfl rfl ?_
  exact l_eq X dL_734 (by decide) (k σ' τ' o3)
theorem lcase_23 {p : Program} {l : Launch} {e : Env} {s : State} {m : MethodId} {below : List Frame} {meth : Method} {c : Code} {b L : Nat} {xs : Nat → Int32} {D : va_G} {cI : ClassId} {ac am : Nat → Nat} {σ τ : xSt} {j : Nat} (X : LX p s m meth c b L xs D cI ac am) (hj : j + 4 ≤ L) (h : RE σ τ) (k : ∀ σ' τ', RE σ' τ' → LJ p l e s m below meth c b D cI ac am (nI j) 753 [] σ' τ') : LJ p l e s m below meth c b D cI ac am (nI j) 739 [] σ τ := by
  obtain ⟨n1, C1, P1, T1, l1, X1, b1, hR⟩ := h
  have hL := X.2.2.2.2.2.2.2
  obtain ⟨r, σ', τ', o1, o2, o3⟩ := p_digest hR
  refine l_x X dL_739 ?_
  refine l_cC (κ' := κl) (av := []) (S := []) X dL_740 lc_law_110 (c_X6_digest _) o1 rfl rfl rfl rfl rfl rfl ?_
  refine l_m X dL_743 ?_
  refine l_cM (κ' := κl) (av := []) (S := [.long r]) X dL_744 lc_law_114 (c_X7_digest _) o2 rfl rfl rfl rfl rfl rfl ?_
  exact l_leq X dL_747 dL_748 (by decide) (k σ' τ' o3)
