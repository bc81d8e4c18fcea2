/-! the law, call by call -/
section LAW
variable {L i : Nat} {xs : Nat → Int32} {σ : ai_M} {Q : Option Value → ai_L → ai_M → Prop}
theorem law_feet (hI : LI xs σ) (hi : i + 5 ≤ L) (hL : L ≤ 2560) (K : ∀ σ2, LI xs σ2 → ev mL_law 60 712 [some (.ref 0), some (.ref 2), some (.ref 35), some (.int (nI i))] [] (LY L) σ2 51 886 Q) : ev mL_law 60 136 [some (.ref 0), some (.ref 2), some (.ref 35), some (.int (nI i))] [] (LY L) σ 51 886 Q := by
  obtain ⟨β, hw, hb, hc, hm, h0, ht⟩ := hI
  refine ev_aload_n dL_law_136 rfl ?_
  refine ev_aload_n dL_law_137 rfl ?_
  refine ev_iload_n dL_law_138 rfl ?_
  refine ev_iconst 1 dL_law_139 (by decide) ?_
  refine ev_iadd dL_law_140 ?_
  rw [show nI i + 1 = nI (i + 1) from nI_add i 1]
  refine ev_iaload dL_law_141 rfl (vp_in_nI (by omega) (by omega)) ?_
  rw [nI_clamp (by omega), h0]
  refine cVi1 dL_law_142 VL_13 ⟨_, rfl⟩ rfl rfl ((tc_feet (d := 20) hw hb hc _).deeper (by decide)) ?_
  intro r1 σ1 hp1
  have hm1 := RM_fr hm hp1.2.2.2
  have h1 : σ1 0 = xs := (hp1.2.2.2 0 (by omega)).trans h0
  refine ev_aload_n dL_law_145 rfl ?_
  refine ev_aload_n dL_law_146 rfl ?_
  refine ev_iload_n dL_law_147 rfl ?_
  refine ev_iconst 1 dL_law_148 (by decide) ?_
  refine ev_iadd dL_law_149 ?_
  rw [show nI i + 1 = nI (i + 1) from nI_add i 1]
  refine ev_iaload dL_law_150 rfl (vp_in_nI (by omega) (by omega)) ?_
  rw [nI_clamp (by omega), h1]
  refine cVi1 dL_law_151 VL_17 ⟨_, rfl⟩ rfl rfl ((tm_feet (d := 20) hw hm1 _).deeper (by decide)) ?_
  intro r2 σ2 hp2
  refine ev_icmp_eq 712 dL_law_154 (by decide) (fun c154 => ?_) (fun c154 => absurd (hp1.1.trans hp2.1.symm) c154)
  exact K σ2 (LI_step (wf_feet hw _) hp1 hp2 h0 ht)
theorem law_volt (hI : LI xs σ) (hi : i + 5 ≤ L) (hL : L ≤ 2560) (K : ∀ σ2, LI xs σ2 → ev mL_law 60 712 [some (.ref 0), some (.ref 2), some (.ref 35), some (.int (nI i))] [] (LY L) σ2 51 886 Q) : ev mL_law 60 159 [some (.ref 0), some (.ref 2), some (.ref 35), some (.int (nI i))] [] (LY L) σ 51 886 Q := by
  obtain ⟨β, hw, hb, hc, hm, h0, ht⟩ := hI
  refine ev_aload_n dL_law_159 rfl ?_
  refine ev_aload_n dL_law_160 rfl ?_
  refine ev_iload_n dL_law_161 rfl ?_
  refine ev_iconst 1 dL_law_162 (by decide) ?_
  refine ev_iadd dL_law_163 ?_
  rw [show nI i + 1 = nI (i + 1) from nI_add i 1]
  refine ev_iaload dL_law_164 rfl (vp_in_nI (by omega) (by omega)) ?_
  rw [nI_clamp (by omega), h0]
  refine ev_aload_n dL_law_165 rfl ?_
  refine ev_iload_n dL_law_166 rfl ?_
  refine ev_iconst 2 dL_law_167 (by decide) ?_
  refine ev_iadd dL_law_168 ?_
  rw [show nI i + 2 = nI (i + 2) from nI_add i 2]
  refine ev_iaload dL_law_169 rfl (vp_in_nI (by omega) (by omega)) ?_
  rw [nI_clamp (by omega), h0]
  refine cVi2 dL_law_170 VL_18 ⟨_, rfl⟩ rfl rfl rfl ((tc_volt (d := 20) hw hb hc _ _).deeper (by decide)) ?_
  intro r1 σ1 hp1
  have hm1 := RM_fr hm hp1.2.2.2
  have h1 : σ1 0 = xs := (hp1.2.2.2 0 (by omega)).trans h0
  refine ev_aload_n dL_law_173 rfl ?_
  refine ev_aload_n dL_law_174 rfl ?_
  refine ev_iload_n dL_law_175 rfl ?_
  refine ev_iconst 1 dL_law_176 (by decide) ?_
  refine ev_iadd dL_law_177 ?_
  rw [show nI i + 1 = nI (i + 1) from nI_add i 1]
  refine ev_iaload dL_law_178 rfl (vp_in_nI (by omega) (by omega)) ?_
  rw [nI_clamp (by omega), h1]
  refine ev_aload_n dL_law_179 rfl ?_
  refine ev_iload_n dL_law_180 rfl ?_
  refine ev_iconst 2 dL_law_181 (by decide) ?_
  refine ev_iadd dL_law_182 ?_
  rw [show nI i + 2 = nI (i + 2) from nI_add i 2]
  refine ev_iaload dL_law_183 rfl (vp_in_nI (by omega) (by omega)) ?_
  rw [nI_clamp (by omega), h1]
  refine cVi2 dL_law_184 VL_22 ⟨_, rfl⟩ rfl rfl rfl ((tm_volt (d := 20) hw hm1 _ _).deeper (by decide)) ?_
  intro r2 σ2 hp2
  refine ev_icmp_eq 712 dL_law_187 (by decide) (fun c187 => ?_) (fun c187 => absurd (hp1.1.trans hp2.1.symm) c187)
  exact K σ2 (LI_step (wf_volt hw _ _) hp1 hp2 h0 ht)
theorem law_unit (hI : LI xs σ) (hi : i + 5 ≤ L) (hL : L ≤ 2560) (K : ∀ σ2, LI xs σ2 → ev mL_law 60 712 [some (.ref 0), some (.ref 2), some (.ref 35), some (.int (nI i))] [] (LY L) σ2 51 886 Q) : ev mL_law 60 192 [some (.ref 0), some (.ref 2), some (.ref 35), some (.int (nI i))] [] (LY L) σ 51 886 Q := by
  obtain ⟨β, hw, hb, hc, hm, h0, ht⟩ := hI
  refine ev_aload_n dL_law_192 rfl ?_
  refine ev_aload_n dL_law_193 rfl ?_
  refine ev_iload_n dL_law_194 rfl ?_
  refine ev_iconst 1 dL_law_195 (by decide) ?_
  refine ev_iadd dL_law_196 ?_
  rw [show nI i + 1 = nI (i + 1) from nI_add i 1]
  refine ev_iaload dL_law_197 rfl (vp_in_nI (by omega) (by omega)) ?_
  rw [nI_clamp (by omega), h0]
  refine cVi1 dL_law_198 VL_23 ⟨_, rfl⟩ rfl rfl ((tc_unit (d := 20) hw hb hc _).deeper (by decide)) ?_
  intro r1 σ1 hp1
  have hm1 := RM_fr hm hp1.2.2.2
  have h1 : σ1 0 = xs := (hp1.2.2.2 0 (by omega)).trans h0
  refine ev_aload_n dL_law_201 rfl ?_
  refine ev_aload_n dL_law_202 rfl ?_
  refine ev_iload_n dL_law_203 rfl ?_
  refine ev_iconst 1 dL_law_204 (by decide) ?_
  refine ev_iadd dL_law_205 ?_
  rw [show nI i + 1 = nI (i + 1) from nI_add i 1]
  refine ev_iaload dL_law_206 rfl (vp_in_nI (by omega) (by omega)) ?_
  rw [nI_clamp (by omega), h1]
  refine cVi1 dL_law_207 VL_26 ⟨_, rfl⟩ rfl rfl ((tm_unit (d := 20) hw hm1 _).deeper (by decide)) ?_
  intro r2 σ2 hp2
  refine ev_icmp_eq 712 dL_law_210 (by decide) (fun c210 => ?_) (fun c210 => absurd (hp1.1.trans hp2.1.symm) c210)
  exact K σ2 (LI_step (wf_unit hw _) hp1 hp2 h0 ht)
theorem law_kind (hI : LI xs σ) (hi : i + 5 ≤ L) (hL : L ≤ 2560) (K : ∀ σ2, LI xs σ2 → ev mL_law 60 712 [some (.ref 0), some (.ref 2), some (.ref 35), some (.int (nI i))] [] (LY L) σ2 51 886 Q) : ev mL_law 60 215 [some (.ref 0), some (.ref 2), some (.ref 35), some (.int (nI i))] [] (LY L) σ 51 886 Q := by
  obtain ⟨β, hw, hb, hc, hm, h0, ht⟩ := hI
  refine ev_aload_n dL_law_215 rfl ?_
  refine ev_aload_n dL_law_216 rfl ?_
  refine ev_iload_n dL_law_217 rfl ?_
  refine ev_iconst 1 dL_law_218 (by decide) ?_
  refine ev_iadd dL_law_219 ?_
  rw [show nI i + 1 = nI (i + 1) from nI_add i 1]
  refine ev_iaload dL_law_220 rfl (vp_in_nI (by omega) (by omega)) ?_
  rw [nI_clamp (by omega), h0]
  refine cVi1 dL_law_221 VL_27 ⟨_, rfl⟩ rfl rfl ((tc_kind (d := 20) hw hb hc _).deeper (by decide)) ?_
  intro r1 σ1 hp1
  have hm1 := RM_fr hm hp1.2.2.2
  have h1 : σ1 0 = xs := (hp1.2.2.2 0 (by omega)).trans h0
  refine ev_aload_n dL_law_224 rfl ?_
  refine ev_aload_n dL_law_225 rfl ?_
  refine ev_iload_n dL_law_226 rfl ?_
  refine ev_iconst 1 dL_law_227 (by decide) ?_
  refine ev_iadd dL_law_228 ?_
  rw [show nI i + 1 = nI (i + 1) from nI_add i 1]
  refine ev_iaload dL_law_229 rfl (vp_in_nI (by omega) (by omega)) ?_
  rw [nI_clamp (by omega), h1]
  refine cVi1 dL_law_230 VL_30 ⟨_, rfl⟩ rfl rfl ((tm_kind (d := 20) hw hm1 _).deeper (by decide)) ?_
  intro r2 σ2 hp2
  refine ev_icmp_eq 712 dL_law_233 (by decide) (fun c233 => ?_) (fun c233 => absurd (hp1.1.trans hp2.1.symm) c233)
  exact K σ2 (LI_step (wf_kind hw _) hp1 hp2 h0 ht)
theorem law_use (hI : LI xs σ) (hi : i + 5 ≤ L) (hL : L ≤ 2560) (K : ∀ σ2, LI xs σ2 → ev mL_law 60 712 [some (.ref 0), some (.ref 2), some (.ref 35), some (.int (nI i))] [] (LY L) σ2 51 886 Q) : ev mL_law 60 238 [some (.ref 0), some (.ref 2), some (.ref 35), some (.int (nI i))] [] (LY L) σ 51 886 Q := by
  obtain ⟨β, hw, hb, hc, hm, h0, ht⟩ := hI
  refine ev_aload_n dL_law_238 rfl ?_
  refine ev_aload_n dL_law_239 rfl ?_
  refine ev_iload_n dL_law_240 rfl ?_
  refine ev_iconst 1 dL_law_241 (by decide) ?_
  refine ev_iadd dL_law_242 ?_
  rw [show nI i + 1 = nI (i + 1) from nI_add i 1]
  refine ev_iaload dL_law_243 rfl (vp_in_nI (by omega) (by omega)) ?_
  rw [nI_clamp (by omega), h0]
  refine ev_aload_n dL_law_244 rfl ?_
  refine ev_iload_n dL_law_245 rfl ?_
  refine ev_iconst 2 dL_law_246 (by decide) ?_
  refine ev_iadd dL_law_247 ?_
  rw [show nI i + 2 = nI (i + 2) from nI_add i 2]
  refine ev_iaload dL_law_248 rfl (vp_in_nI (by omega) (by omega)) ?_
  rw [nI_clamp (by omega), h0]
  refine ev_aload_n dL_law_249 rfl ?_
  refine ev_iload_n dL_law_250 rfl ?_
  refine ev_iconst 3 dL_law_251 (by decide) ?_
  refine ev_iadd dL_law_252 ?_
  rw [show nI i + 3 = nI (i + 3) from nI_add i 3]
  refine ev_iaload dL_law_253 rfl (vp_in_nI (by omega) (by omega)) ?_
  rw [nI_clamp (by omega), h0]
  refine cVi3 dL_law_254 VL_31 ⟨_, rfl⟩ rfl rfl rfl rfl ((tc_use (d := 20) hw hb hc _ _ _).deeper (by decide)) ?_
  intro r1 σ1 hp1
  have hm1 := RM_fr hm hp1.2.2.2
  have h1 : σ1 0 = xs := (hp1.2.2.2 0 (by omega)).trans h0
  refine ev_aload_n dL_law_257 rfl ?_
  refine ev_aload_n dL_law_258 rfl ?_
  refine ev_iload_n dL_law_259 rfl ?_
  refine ev_iconst 1 dL_law_260 (by decide) ?_
  refine ev_iadd dL_law_261 ?_
  rw [show nI i + 1 = nI (i + 1) from nI_add i 1]
  refine ev_iaload dL_law_262 rfl (vp_in_nI (by omega) (by omega)) ?_
  rw [nI_clamp (by omega), h1]
  refine ev_aload_n dL_law_263 rfl ?_
  refine ev_iload_n dL_law_264 rfl ?_
  refine ev_iconst 2 dL_law_265 (by decide) ?_
  refine ev_iadd dL_law_266 ?_
  rw [show nI i + 2 = nI (i + 2) from nI_add i 2]
  refine ev_iaload dL_law_267 rfl (vp_in_nI (by omega) (by omega)) ?_
  rw [nI_clamp (by omega), h1]
  refine ev_aload_n dL_law_268 rfl ?_
  refine ev_iload_n dL_law_269 rfl ?_
  refine ev_iconst 3 dL_law_270 (by decide) ?_
  refine ev_iadd dL_law_271 ?_
  rw [show nI i + 3 = nI (i + 3) from nI_add i 3]
  refine ev_iaload dL_law_272 rfl (vp_in_nI (by omega) (by omega)) ?_
  rw [nI_clamp (by omega), h1]
  refine cVi3 dL_law_273 VL_35 ⟨_, rfl⟩ rfl rfl rfl rfl ((tm_use (d := 20) hw hm1 _ _ _).deeper (by decide)) ?_
  intro r2 σ2 hp2
  refine ev_icmp_eq 712 dL_law_276 (by decide) (fun c276 => ?_) (fun c276 => absurd (hp1.1.trans hp2.1.symm) c276)
  exact K σ2 (LI_step (wf_use hw _ _ _) hp1 hp2 h0 ht)
theorem law_about (hI : LI xs σ) (hi : i + 5 ≤ L) (hL : L ≤ 2560) (K : ∀ σ2, LI xs σ2 → ev mL_law 60 712 [some (.ref 0), some (.ref 2), some (.ref 35), some (.int (nI i))] [] (LY L) σ2 51 886 Q) : ev mL_law 60 281 [some (.ref 0), some (.ref 2), some (.ref 35), some (.int (nI i))] [] (LY L) σ 51 886 Q := by
  obtain ⟨β, hw, hb, hc, hm, h0, ht⟩ := hI
  refine ev_aload_n dL_law_281 rfl ?_
  refine ev_aload_n dL_law_282 rfl ?_
  refine ev_iload_n dL_law_283 rfl ?_
  refine ev_iconst 1 dL_law_284 (by decide) ?_
  refine ev_iadd dL_law_285 ?_
  rw [show nI i + 1 = nI (i + 1) from nI_add i 1]
  refine ev_iaload dL_law_286 rfl (vp_in_nI (by omega) (by omega)) ?_
  rw [nI_clamp (by omega), h0]
  refine ev_aload_n dL_law_287 rfl ?_
  refine ev_iload_n dL_law_288 rfl ?_
  refine ev_iconst 2 dL_law_289 (by decide) ?_
  refine ev_iadd dL_law_290 ?_
  rw [show nI i + 2 = nI (i + 2) from nI_add i 2]
  refine ev_iaload dL_law_291 rfl (vp_in_nI (by omega) (by omega)) ?_
  rw [nI_clamp (by omega), h0]
  refine cVi2 dL_law_292 VL_36 ⟨_, rfl⟩ rfl rfl rfl ((tc_about (d := 20) hw hb hc _ _).deeper (by decide)) ?_
  intro r1 σ1 hp1
  have hm1 := RM_fr hm hp1.2.2.2
  have h1 : σ1 0 = xs := (hp1.2.2.2 0 (by omega)).trans h0
  refine ev_aload_n dL_law_295 rfl ?_
  refine ev_aload_n dL_law_296 rfl ?_
  refine ev_iload_n dL_law_297 rfl ?_
  refine ev_iconst 1 dL_law_298 (by decide) ?_
  refine ev_iadd dL_law_299 ?_
  rw [show nI i + 1 = nI (i + 1) from nI_add i 1]
  refine ev_iaload dL_law_300 rfl (vp_in_nI (by omega) (by omega)) ?_
  rw [nI_clamp (by omega), h1]
  refine ev_aload_n dL_law_301 rfl ?_
  refine ev_iload_n dL_law_302 rfl ?_
  refine ev_iconst 2 dL_law_303 (by decide) ?_
  refine ev_iadd dL_law_304 ?_
  rw [show nI i + 2 = nI (i + 2) from nI_add i 2]
  refine ev_iaload dL_law_305 rfl (vp_in_nI (by omega) (by omega)) ?_
  rw [nI_clamp (by omega), h1]
  refine cVi2 dL_law_306 VL_39 ⟨_, rfl⟩ rfl rfl rfl ((tm_about (d := 20) hw hm1 _ _).deeper (by decide)) ?_
  intro r2 σ2 hp2
  refine ev_icmp_eq 712 dL_law_309 (by decide) (fun c309 => ?_) (fun c309 => absurd (hp1.1.trans hp2.1.symm) c309)
  exact K σ2 (LI_step (wf_about hw _ _) hp1 hp2 h0 ht)
theorem law_wish (hI : LI xs σ) (hi : i + 5 ≤ L) (hL : L ≤ 2560) (K : ∀ σ2, LI xs σ2 → ev mL_law 60 712 [some (.ref 0), some (.ref 2), some (.ref 35), some (.int (nI i))] [] (LY L) σ2 51 886 Q) : ev mL_law 60 314 [some (.ref 0), some (.ref 2), some (.ref 35), some (.int (nI i))] [] (LY L) σ 51 886 Q := by
  obtain ⟨β, hw, hb, hc, hm, h0, ht⟩ := hI
  refine ev_aload_n dL_law_314 rfl ?_
  refine ev_aload_n dL_law_315 rfl ?_
  refine ev_iload_n dL_law_316 rfl ?_
  refine ev_iconst 1 dL_law_317 (by decide) ?_
  refine ev_iadd dL_law_318 ?_
  rw [show nI i + 1 = nI (i + 1) from nI_add i 1]
  refine ev_iaload dL_law_319 rfl (vp_in_nI (by omega) (by omega)) ?_
  rw [nI_clamp (by omega), h0]
  refine ev_aload_n dL_law_320 rfl ?_
  refine ev_iload_n dL_law_321 rfl ?_
  refine ev_iconst 2 dL_law_322 (by decide) ?_
  refine ev_iadd dL_law_323 ?_
  rw [show nI i + 2 = nI (i + 2) from nI_add i 2]
  refine ev_iaload dL_law_324 rfl (vp_in_nI (by omega) (by omega)) ?_
  rw [nI_clamp (by omega), h0]
  refine ev_aload_n dL_law_325 rfl ?_
  refine ev_iload_n dL_law_326 rfl ?_
  refine ev_iconst 3 dL_law_327 (by decide) ?_
  refine ev_iadd dL_law_328 ?_
  rw [show nI i + 3 = nI (i + 3) from nI_add i 3]
  refine ev_iaload dL_law_329 rfl (vp_in_nI (by omega) (by omega)) ?_
  rw [nI_clamp (by omega), h0]
  refine ev_aload_n dL_law_330 rfl ?_
  refine ev_iload_n dL_law_331 rfl ?_
  refine ev_iconst 4 dL_law_332 (by decide) ?_
  refine ev_iadd dL_law_333 ?_
  rw [show nI i + 4 = nI (i + 4) from nI_add i 4]
  refine ev_iaload dL_law_334 rfl (vp_in_nI (by omega) (by omega)) ?_
  rw [nI_clamp (by omega), h0]
  refine cVi4 dL_law_335 VL_40 ⟨_, rfl⟩ rfl rfl rfl rfl rfl ((tc_wish (d := 20) hw hb hc _ _ _ _).deeper (by decide)) ?_
  intro r1 σ1 hp1
  have hm1 := RM_fr hm hp1.2.2.2
  have h1 : σ1 0 = xs := (hp1.2.2.2 0 (by omega)).trans h0
  refine ev_aload_n dL_law_338 rfl ?_
  refine ev_aload_n dL_law_339 rfl ?_
  refine ev_iload_n dL_law_340 rfl ?_
  refine ev_iconst 1 dL_law_341 (by decide) ?_
  refine ev_iadd dL_law_342 ?_
  rw [show nI i + 1 = nI (i + 1) from nI_add i 1]
  refine ev_iaload dL_law_343 rfl (vp_in_nI (by omega) (by omega)) ?_
  rw [nI_clamp (by omega), h1]
  refine ev_aload_n dL_law_344 rfl ?_
  refine ev_iload_n dL_law_345 rfl ?_
  refine ev_iconst 2 dL_law_346 (by decide) ?_
  refine ev_iadd dL_law_347 ?_
  rw [show nI i + 2 = nI (i + 2) from nI_add i 2]
  refine ev_iaload dL_law_348 rfl (vp_in_nI (by omega) (by omega)) ?_
  rw [nI_clamp (by omega), h1]
  refine ev_aload_n dL_law_349 rfl ?_
  refine ev_iload_n dL_law_350 rfl ?_
  refine ev_iconst 3 dL_law_351 (by decide) ?_
  refine ev_iadd dL_law_352 ?_
  rw [show nI i + 3 = nI (i + 3) from nI_add i 3]
  refine ev_iaload dL_law_353 rfl (vp_in_nI (by omega) (by omega)) ?_
  rw [nI_clamp (by omega), h1]
  refine ev_aload_n dL_law_354 rfl ?_
  refine ev_iload_n dL_law_355 rfl ?_
  refine ev_iconst 4 dL_law_356 (by decide) ?_
  refine ev_iadd dL_law_357 ?_
  rw [show nI i + 4 = nI (i + 4) from nI_add i 4]
  refine ev_iaload dL_law_358 rfl (vp_in_nI (by omega) (by omega)) ?_
  rw [nI_clamp (by omega), h1]
  refine cVi4 dL_law_359 VL_44 ⟨_, rfl⟩ rfl rfl rfl rfl rfl ((tm_wish (d := 20) hw hm1 _ _ _ _).deeper (by decide)) ?_
  intro r2 σ2 hp2
  refine ev_icmp_eq 712 dL_law_362 (by decide) (fun c362 => ?_) (fun c362 => absurd (hp1.1.trans hp2.1.symm) c362)
  exact K σ2 (LI_step (wf_wish hw _ _ _ _) hp1 hp2 h0 ht)
theorem law_wished (hI : LI xs σ) (hi : i + 5 ≤ L) (hL : L ≤ 2560) (K : ∀ σ2, LI xs σ2 → ev mL_law 60 712 [some (.ref 0), some (.ref 2), some (.ref 35), some (.int (nI i))] [] (LY L) σ2 51 886 Q) : ev mL_law 60 367 [some (.ref 0), some (.ref 2), some (.ref 35), some (.int (nI i))] [] (LY L) σ 51 886 Q := by
  obtain ⟨β, hw, hb, hc, hm, h0, ht⟩ := hI
  refine ev_aload_n dL_law_367 rfl ?_
  refine ev_aload_n dL_law_368 rfl ?_
  refine ev_iload_n dL_law_369 rfl ?_
  refine ev_iconst 1 dL_law_370 (by decide) ?_
  refine ev_iadd dL_law_371 ?_
  rw [show nI i + 1 = nI (i + 1) from nI_add i 1]
  refine ev_iaload dL_law_372 rfl (vp_in_nI (by omega) (by omega)) ?_
  rw [nI_clamp (by omega), h0]
  refine ev_aload_n dL_law_373 rfl ?_
  refine ev_iload_n dL_law_374 rfl ?_
  refine ev_iconst 2 dL_law_375 (by decide) ?_
  refine ev_iadd dL_law_376 ?_
  rw [show nI i + 2 = nI (i + 2) from nI_add i 2]
  refine ev_iaload dL_law_377 rfl (vp_in_nI (by omega) (by omega)) ?_
  rw [nI_clamp (by omega), h0]
  refine cVi2 dL_law_378 VL_45 ⟨_, rfl⟩ rfl rfl rfl ((tc_wished (d := 20) hw hb hc _ _).deeper (by decide)) ?_
  intro r1 σ1 hp1
  have hm1 := RM_fr hm hp1.2.2.2
  have h1 : σ1 0 = xs := (hp1.2.2.2 0 (by omega)).trans h0
  refine ev_aload_n dL_law_381 rfl ?_
  refine ev_aload_n dL_law_382 rfl ?_
  refine ev_iload_n dL_law_383 rfl ?_
  refine ev_iconst 1 dL_law_384 (by decide) ?_
  refine ev_iadd dL_law_385 ?_
  rw [show nI i + 1 = nI (i + 1) from nI_add i 1]
  refine ev_iaload dL_law_386 rfl (vp_in_nI (by omega) (by omega)) ?_
  rw [nI_clamp (by omega), h1]
  refine ev_aload_n dL_law_387 rfl ?_
  refine ev_iload_n dL_law_388 rfl ?_
  refine ev_iconst 2 dL_law_389 (by decide) ?_
  refine ev_iadd dL_law_390 ?_
  rw [show nI i + 2 = nI (i + 2) from nI_add i 2]
  refine ev_iaload dL_law_391 rfl (vp_in_nI (by omega) (by omega)) ?_
  rw [nI_clamp (by omega), h1]
  refine cVi2 dL_law_392 VL_48 ⟨_, rfl⟩ rfl rfl rfl ((tm_wished (d := 20) hw hm1 _ _).deeper (by decide)) ?_
  intro r2 σ2 hp2
  refine ev_icmp_eq 712 dL_law_395 (by decide) (fun c395 => ?_) (fun c395 => absurd (hp1.1.trans hp2.1.symm) c395)
  exact K σ2 (LI_step (wf_wished hw _ _) hp1 hp2 h0 ht)
theorem law_fix (hI : LI xs σ) (hi : i + 5 ≤ L) (hL : L ≤ 2560) (K : ∀ σ2, LI xs σ2 → ev mL_law 60 712 [some (.ref 0), some (.ref 2), some (.ref 35), some (.int (nI i))] [] (LY L) σ2 51 886 Q) : ev mL_law 60 400 [some (.ref 0), some (.ref 2), some (.ref 35), some (.int (nI i))] [] (LY L) σ 51 886 Q := by
  obtain ⟨β, hw, hb, hc, hm, h0, ht⟩ := hI
  refine ev_aload_n dL_law_400 rfl ?_
  refine ev_aload_n dL_law_401 rfl ?_
  refine ev_iload_n dL_law_402 rfl ?_
  refine ev_iconst 1 dL_law_403 (by decide) ?_
  refine ev_iadd dL_law_404 ?_
  rw [show nI i + 1 = nI (i + 1) from nI_add i 1]
  refine ev_iaload dL_law_405 rfl (vp_in_nI (by omega) (by omega)) ?_
  rw [nI_clamp (by omega), h0]
  refine ev_aload_n dL_law_406 rfl ?_
  refine ev_iload_n dL_law_407 rfl ?_
  refine ev_iconst 2 dL_law_408 (by decide) ?_
  refine ev_iadd dL_law_409 ?_
  rw [show nI i + 2 = nI (i + 2) from nI_add i 2]
  refine ev_iaload dL_law_410 rfl (vp_in_nI (by omega) (by omega)) ?_
  rw [nI_clamp (by omega), h0]
  refine ev_aload_n dL_law_411 rfl ?_
  refine ev_iload_n dL_law_412 rfl ?_
  refine ev_iconst 3 dL_law_413 (by decide) ?_
  refine ev_iadd dL_law_414 ?_
  rw [show nI i + 3 = nI (i + 3) from nI_add i 3]
  refine ev_iaload dL_law_415 rfl (vp_in_nI (by omega) (by omega)) ?_
  rw [nI_clamp (by omega), h0]
  refine cVi3 dL_law_416 VL_49 ⟨_, rfl⟩ rfl rfl rfl rfl ((tc_fix (d := 20) hw hb hc _ _ _).deeper (by decide)) ?_
  intro r1 σ1 hp1
  have hm1 := RM_fr hm hp1.2.2.2
  have h1 : σ1 0 = xs := (hp1.2.2.2 0 (by omega)).trans h0
  refine ev_aload_n dL_law_419 rfl ?_
  refine ev_aload_n dL_law_420 rfl ?_
  refine ev_iload_n dL_law_421 rfl ?_
  refine ev_iconst 1 dL_law_422 (by decide) ?_
  refine ev_iadd dL_law_423 ?_
  rw [show nI i + 1 = nI (i + 1) from nI_add i 1]
  refine ev_iaload dL_law_424 rfl (vp_in_nI (by omega) (by omega)) ?_
  rw [nI_clamp (by omega), h1]
  refine ev_aload_n dL_law_425 rfl ?_
  refine ev_iload_n dL_law_426 rfl ?_
  refine ev_iconst 2 dL_law_427 (by decide) ?_
  refine ev_iadd dL_law_428 ?_
  rw [show nI i + 2 = nI (i + 2) from nI_add i 2]
  refine ev_iaload dL_law_429 rfl (vp_in_nI (by omega) (by omega)) ?_
  rw [nI_clamp (by omega), h1]
  refine ev_aload_n dL_law_430 rfl ?_
  refine ev_iload_n dL_law_431 rfl ?_
  refine ev_iconst 3 dL_law_432 (by decide) ?_
  refine ev_iadd dL_law_433 ?_
  rw [show nI i + 3 = nI (i + 3) from nI_add i 3]
  refine ev_iaload dL_law_434 rfl (vp_in_nI (by omega) (by omega)) ?_
  rw [nI_clamp (by omega), h1]
  refine cVi3 dL_law_435 VL_52 ⟨_, rfl⟩ rfl rfl rfl rfl ((tm_fix (d := 20) hw hm1 _ _ _).deeper (by decide)) ?_
  intro r2 σ2 hp2
  refine ev_icmp_eq 712 dL_law_438 (by decide) (fun c438 => ?_) (fun c438 => absurd (hp1.1.trans hp2.1.symm) c438)
  exact K σ2 (LI_step (wf_fix hw _ _ _) hp1 hp2 h0 ht)
theorem law_drop (hI : LI xs σ) (hi : i + 5 ≤ L) (hL : L ≤ 2560) (K : ∀ σ2, LI xs σ2 → ev mL_law 60 712 [some (.ref 0), some (.ref 2), some (.ref 35), some (.int (nI i))] [] (LY L) σ2 51 886 Q) : ev mL_law 60 443 [some (.ref 0), some (.ref 2), some (.ref 35), some (.int (nI i))] [] (LY L) σ 51 886 Q := by
  obtain ⟨β, hw, hb, hc, hm, h0, ht⟩ := hI
  refine ev_aload_n dL_law_443 rfl ?_
  refine cVi0 dL_law_444 VL_53 ⟨_, rfl⟩ rfl ((tc_drop (d := 20) hw hb hc).deeper (by decide)) ?_
  intro r1 σ1 hp1
  have hm1 := RM_fr hm hp1.2.2.2
  have h1 : σ1 0 = xs := (hp1.2.2.2 0 (by omega)).trans h0
  refine ev_aload_n dL_law_447 rfl ?_
  refine cVi0 dL_law_448 VL_57 ⟨_, rfl⟩ rfl ((tm_drop (d := 20) hw hm1).deeper (by decide)) ?_
  intro r2 σ2 hp2
  refine ev_icmp_eq 712 dL_law_451 (by decide) (fun c451 => ?_) (fun c451 => absurd (hp1.1.trans hp2.1.symm) c451)
  exact K σ2 (LI_step (wf_drop hw) hp1 hp2 h0 ht)
theorem law_best (hI : LI xs σ) (hi : i + 5 ≤ L) (hL : L ≤ 2560) (K : ∀ σ2, LI xs σ2 → ev mL_law 60 712 [some (.ref 0), some (.ref 2), some (.ref 35), some (.int (nI i))] [] (LY L) σ2 51 886 Q) : ev mL_law 60 456 [some (.ref 0), some (.ref 2), some (.ref 35), some (.int (nI i))] [] (LY L) σ 51 886 Q := by
  obtain ⟨β, hw, hb, hc, hm, h0, ht⟩ := hI
  refine ev_aload_n dL_law_456 rfl ?_
  refine cVi0 dL_law_457 VL_58 ⟨_, rfl⟩ rfl ((tc_best (d := 20) hw hb hc).deeper (by decide)) ?_
  intro r1 σ1 hp1
  have hm1 := RM_fr hm hp1.2.2.2
  have h1 : σ1 0 = xs := (hp1.2.2.2 0 (by omega)).trans h0
  refine ev_aload_n dL_law_460 rfl ?_
  refine cVi0 dL_law_461 VL_61 ⟨_, rfl⟩ rfl ((tm_best (d := 20) hw hm1).deeper (by decide)) ?_
  intro r2 σ2 hp2
  refine ev_icmp_eq 712 dL_law_464 (by decide) (fun c464 => ?_) (fun c464 => absurd (hp1.1.trans hp2.1.symm) c464)
  exact K σ2 (LI_step (wf_best hw) hp1 hp2 h0 ht)
theorem law_given (hI : LI xs σ) (hi : i + 5 ≤ L) (hL : L ≤ 2560) (K : ∀ σ2, LI xs σ2 → ev mL_law 60 712 [some (.ref 0), some (.ref 2), some (.ref 35), some (.int (nI i))] [] (LY L) σ2 51 886 Q) : ev mL_law 60 469 [some (.ref 0), some (.ref 2), some (.ref 35), some (.int (nI i))] [] (LY L) σ 51 886 Q := by
  obtain ⟨β, hw, hb, hc, hm, h0, ht⟩ := hI
  refine ev_aload_n dL_law_469 rfl ?_
  refine ev_aload_n dL_law_470 rfl ?_
  refine ev_iload_n dL_law_471 rfl ?_
  refine ev_iconst 1 dL_law_472 (by decide) ?_
  refine ev_iadd dL_law_473 ?_
  rw [show nI i + 1 = nI (i + 1) from nI_add i 1]
  refine ev_iaload dL_law_474 rfl (vp_in_nI (by omega) (by omega)) ?_
  rw [nI_clamp (by omega), h0]
  refine ev_aload_n dL_law_475 rfl ?_
  refine ev_iload_n dL_law_476 rfl ?_
  refine ev_iconst 2 dL_law_477 (by decide) ?_
  refine ev_iadd dL_law_478 ?_
  rw [show nI i + 2 = nI (i + 2) from nI_add i 2]
  refine ev_iaload dL_law_479 rfl (vp_in_nI (by omega) (by omega)) ?_
  rw [nI_clamp (by omega), h0]
  refine cVi2 dL_law_480 VL_62 ⟨_, rfl⟩ rfl rfl rfl ((tc_given (d := 20) hw hb hc _ _).deeper (by decide)) ?_
  intro r1 σ1 hp1
  have hm1 := RM_fr hm hp1.2.2.2
  have h1 : σ1 0 = xs := (hp1.2.2.2 0 (by omega)).trans h0
  refine ev_aload_n dL_law_483 rfl ?_
  refine ev_aload_n dL_law_484 rfl ?_
  refine ev_iload_n dL_law_485 rfl ?_
  refine ev_iconst 1 dL_law_486 (by decide) ?_
  refine ev_iadd dL_law_487 ?_
  rw [show nI i + 1 = nI (i + 1) from nI_add i 1]
  refine ev_iaload dL_law_488 rfl (vp_in_nI (by omega) (by omega)) ?_
  rw [nI_clamp (by omega), h1]
  refine ev_aload_n dL_law_489 rfl ?_
  refine ev_iload_n dL_law_490 rfl ?_
  refine ev_iconst 2 dL_law_491 (by decide) ?_
  refine ev_iadd dL_law_492 ?_
  rw [show nI i + 2 = nI (i + 2) from nI_add i 2]
  refine ev_iaload dL_law_493 rfl (vp_in_nI (by omega) (by omega)) ?_
  rw [nI_clamp (by omega), h1]
  refine cVi2 dL_law_494 VL_65 ⟨_, rfl⟩ rfl rfl rfl ((tm_given (d := 20) hw hm1 _ _).deeper (by decide)) ?_
  intro r2 σ2 hp2
  refine ev_icmp_eq 712 dL_law_497 (by decide) (fun c497 => ?_) (fun c497 => absurd (hp1.1.trans hp2.1.symm) c497)
  exact K σ2 (LI_step (wf_given hw _ _) hp1 hp2 h0 ht)
theorem law_crossings (hI : LI xs σ) (hi : i + 5 ≤ L) (hL : L ≤ 2560) (K : ∀ σ2, LI xs σ2 → ev mL_law 60 712 [some (.ref 0), some (.ref 2), some (.ref 35), some (.int (nI i))] [] (LY L) σ2 51 886 Q) : ev mL_law 60 502 [some (.ref 0), some (.ref 2), some (.ref 35), some (.int (nI i))] [] (LY L) σ 51 886 Q := by
  obtain ⟨β, hw, hb, hc, hm, h0, ht⟩ := hI
  refine ev_aload_n dL_law_502 rfl ?_
  refine cVi0 dL_law_503 VL_66 ⟨_, rfl⟩ rfl ((tc_crossings (d := 20) hw hb hc).deeper (by decide)) ?_
  intro r1 σ1 hp1
  have hm1 := RM_fr hm hp1.2.2.2
  have h1 : σ1 0 = xs := (hp1.2.2.2 0 (by omega)).trans h0
  refine ev_aload_n dL_law_506 rfl ?_
  refine cVi0 dL_law_507 VL_69 ⟨_, rfl⟩ rfl ((tm_crossings (d := 20) hw hm1).deeper (by decide)) ?_
  intro r2 σ2 hp2
  refine ev_icmp_eq 712 dL_law_510 (by decide) (fun c510 => ?_) (fun c510 => absurd (hp1.1.trans hp2.1.symm) c510)
  exact K σ2 (LI_step (wf_crossings hw) hp1 hp2 h0 ht)
theorem law_blame (hI : LI xs σ) (hi : i + 5 ≤ L) (hL : L ≤ 2560) (K : ∀ σ2, LI xs σ2 → ev mL_law 60 712 [some (.ref 0), some (.ref 2), some (.ref 35), some (.int (nI i))] [] (LY L) σ2 51 886 Q) : ev mL_law 60 515 [some (.ref 0), some (.ref 2), some (.ref 35), some (.int (nI i))] [] (LY L) σ 51 886 Q := by
  obtain ⟨β, hw, hb, hc, hm, h0, ht⟩ := hI
  refine ev_aload_n dL_law_515 rfl ?_
  refine cVi0 dL_law_516 VL_70 ⟨_, rfl⟩ rfl ((tc_blame (d := 20) hw hb hc ht).deeper (by decide)) ?_
  intro r1 σ1 hp1
  have hm1 := RM_fr hm hp1.2.2.2
  have h1 : σ1 0 = xs := (hp1.2.2.2 0 (by omega)).trans h0
  refine ev_aload_n dL_law_519 rfl ?_
  refine cVi0 dL_law_520 VL_73 ⟨_, rfl⟩ rfl ((tm_blame (d := 20) hw hm1).deeper (by decide)) ?_
  intro r2 σ2 hp2
  refine ev_icmp_eq 712 dL_law_523 (by decide) (fun c523 => ?_) (fun c523 => absurd (hp1.1.trans hp2.1.symm) c523)
  exact K σ2 (LI_step (wf_blame hw) hp1 hp2 h0 ht)
theorem law_many (hI : LI xs σ) (hi : i + 5 ≤ L) (hL : L ≤ 2560) (K : ∀ σ2, LI xs σ2 → ev mL_law 60 712 [some (.ref 0), some (.ref 2), some (.ref 35), some (.int (nI i))] [] (LY L) σ2 51 886 Q) : ev mL_law 60 528 [some (.ref 0), some (.ref 2), some (.ref 35), some (.int (nI i))] [] (LY L) σ 51 886 Q := by
  obtain ⟨β, hw, hb, hc, hm, h0, ht⟩ := hI
  refine ev_aload_n dL_law_528 rfl ?_
  refine cVi0 dL_law_529 VL_74 ⟨_, rfl⟩ rfl ((tc_many (d := 20) hw hb hc).deeper (by decide)) ?_
  intro r1 σ1 hp1
  have hm1 := RM_fr hm hp1.2.2.2
  have h1 : σ1 0 = xs := (hp1.2.2.2 0 (by omega)).trans h0
  refine ev_aload_n dL_law_532 rfl ?_
  refine cVi0 dL_law_533 VL_77 ⟨_, rfl⟩ rfl ((tm_many (d := 20) hw hm1).deeper (by decide)) ?_
  intro r2 σ2 hp2
  refine ev_icmp_eq 712 dL_law_536 (by decide) (fun c536 => ?_) (fun c536 => absurd (hp1.1.trans hp2.1.symm) c536)
  exact K σ2 (LI_step (wf_many hw) hp1 hp2 h0 ht)
theorem law_trial (hI : LI xs σ) (hi : i + 5 ≤ L) (hL : L ≤ 2560) (K : ∀ σ2, LI xs σ2 → ev mL_law 60 712 [some (.ref 0), some (.ref 2), some (.ref 35), some (.int (nI i))] [] (LY L) σ2 51 886 Q) : ev mL_law 60 541 [some (.ref 0), some (.ref 2), some (.ref 35), some (.int (nI i))] [] (LY L) σ 51 886 Q := by
  obtain ⟨β, hw, hb, hc, hm, h0, ht⟩ := hI
  refine ev_aload_n dL_law_541 rfl ?_
  refine ev_aload_n dL_law_542 rfl ?_
  refine ev_iload_n dL_law_543 rfl ?_
  refine ev_iconst 1 dL_law_544 (by decide) ?_
  refine ev_iadd dL_law_545 ?_
  rw [show nI i + 1 = nI (i + 1) from nI_add i 1]
  refine ev_iaload dL_law_546 rfl (vp_in_nI (by omega) (by omega)) ?_
  rw [nI_clamp (by omega), h0]
  refine ev_aload_n dL_law_547 rfl ?_
  refine ev_iload_n dL_law_548 rfl ?_
  refine ev_iconst 2 dL_law_549 (by decide) ?_
  refine ev_iadd dL_law_550 ?_
  rw [show nI i + 2 = nI (i + 2) from nI_add i 2]
  refine ev_iaload dL_law_551 rfl (vp_in_nI (by omega) (by omega)) ?_
  rw [nI_clamp (by omega), h0]
  refine ev_aload_n dL_law_552 rfl ?_
  refine ev_iload_n dL_law_553 rfl ?_
  refine ev_iconst 3 dL_law_554 (by decide) ?_
  refine ev_iadd dL_law_555 ?_
  rw [show nI i + 3 = nI (i + 3) from nI_add i 3]
  refine ev_iaload dL_law_556 rfl (vp_in_nI (by omega) (by omega)) ?_
  rw [nI_clamp (by omega), h0]
  refine ev_aload_n dL_law_557 rfl ?_
  refine ev_iload_n dL_law_558 rfl ?_
  refine ev_iconst 4 dL_law_559 (by decide) ?_
  refine ev_iadd dL_law_560 ?_
  rw [show nI i + 4 = nI (i + 4) from nI_add i 4]
  refine ev_iaload dL_law_561 rfl (vp_in_nI (by omega) (by omega)) ?_
  rw [nI_clamp (by omega), h0]
  refine cVi4 dL_law_562 VL_78 ⟨_, rfl⟩ rfl rfl rfl rfl rfl ((tc_trial (d := 20) hw hb hc _ _ _ _).deeper (by decide)) ?_
  intro r1 σ1 hp1
  have hm1 := RM_fr hm hp1.2.2.2
  have h1 : σ1 0 = xs := (hp1.2.2.2 0 (by omega)).trans h0
  refine ev_aload_n dL_law_565 rfl ?_
  refine ev_aload_n dL_law_566 rfl ?_
  refine ev_iload_n dL_law_567 rfl ?_
  refine ev_iconst 1 dL_law_568 (by decide) ?_
  refine ev_iadd dL_law_569 ?_
  rw [show nI i + 1 = nI (i + 1) from nI_add i 1]
  refine ev_iaload dL_law_570 rfl (vp_in_nI (by omega) (by omega)) ?_
  rw [nI_clamp (by omega), h1]
  refine ev_aload_n dL_law_571 rfl ?_
  refine ev_iload_n dL_law_572 rfl ?_
  refine ev_iconst 2 dL_law_573 (by decide) ?_
  refine ev_iadd dL_law_574 ?_
  rw [show nI i + 2 = nI (i + 2) from nI_add i 2]
  refine ev_iaload dL_law_575 rfl (vp_in_nI (by omega) (by omega)) ?_
  rw [nI_clamp (by omega), h1]
  refine ev_aload_n dL_law_576 rfl ?_
  refine ev_iload_n dL_law_577 rfl ?_
  refine ev_iconst 3 dL_law_578 (by decide) ?_
  refine ev_iadd dL_law_579 ?_
  rw [show nI i + 3 = nI (i + 3) from nI_add i 3]
  refine ev_iaload dL_law_580 rfl (vp_in_nI (by omega) (by omega)) ?_
  rw [nI_clamp (by omega), h1]
  refine ev_aload_n dL_law_581 rfl ?_
  refine ev_iload_n dL_law_582 rfl ?_
  refine ev_iconst 4 dL_law_583 (by decide) ?_
  refine ev_iadd dL_law_584 ?_
  rw [show nI i + 4 = nI (i + 4) from nI_add i 4]
  refine ev_iaload dL_law_585 rfl (vp_in_nI (by omega) (by omega)) ?_
  rw [nI_clamp (by omega), h1]
  refine cVi4 dL_law_586 VL_81 ⟨_, rfl⟩ rfl rfl rfl rfl rfl ((tm_trial (d := 20) hw hm1 _ _ _ _).deeper (by decide)) ?_
  intro r2 σ2 hp2
  refine ev_icmp_eq 712 dL_law_589 (by decide) (fun c589 => ?_) (fun c589 => absurd (hp1.1.trans hp2.1.symm) c589)
  exact K σ2 (LI_step (wf_trial hw _ _ _ _) hp1 hp2 h0 ht)
theorem law_hold (hI : LI xs σ) (hi : i + 5 ≤ L) (hL : L ≤ 2560) (K : ∀ σ2, LI xs σ2 → ev mL_law 60 712 [some (.ref 0), some (.ref 2), some (.ref 35), some (.int (nI i))] [] (LY L) σ2 51 886 Q) : ev mL_law 60 594 [some (.ref 0), some (.ref 2), some (.ref 35), some (.int (nI i))] [] (LY L) σ 51 886 Q := by
  obtain ⟨β, hw, hb, hc, hm, h0, ht⟩ := hI
  refine ev_aload_n dL_law_594 rfl ?_
  refine cVi0 dL_law_595 VL_82 ⟨_, rfl⟩ rfl ((tc_hold (d := 20) hw hb hc).deeper (by decide)) ?_
  intro r1 σ1 hp1
  have hm1 := RM_fr hm hp1.2.2.2
  have h1 : σ1 0 = xs := (hp1.2.2.2 0 (by omega)).trans h0
  refine ev_aload_n dL_law_598 rfl ?_
  refine cVi0 dL_law_599 VL_85 ⟨_, rfl⟩ rfl ((tm_hold (d := 20) hw hm1).deeper (by decide)) ?_
  intro r2 σ2 hp2
  refine ev_icmp_eq 712 dL_law_602 (by decide) (fun c602 => ?_) (fun c602 => absurd (hp1.1.trans hp2.1.symm) c602)
  exact K σ2 (LI_step (wf_hold hw) hp1 hp2 h0 ht)
theorem law_change (hI : LI xs σ) (hi : i + 5 ≤ L) (hL : L ≤ 2560) (K : ∀ σ2, LI xs σ2 → ev mL_law 60 712 [some (.ref 0), some (.ref 2), some (.ref 35), some (.int (nI i))] [] (LY L) σ2 51 886 Q) : ev mL_law 60 607 [some (.ref 0), some (.ref 2), some (.ref 35), some (.int (nI i))] [] (LY L) σ 51 886 Q := by
  obtain ⟨β, hw, hb, hc, hm, h0, ht⟩ := hI
  refine ev_aload_n dL_law_607 rfl ?_
  refine cVi0 dL_law_608 VL_86 ⟨_, rfl⟩ rfl ((tc_change (d := 20) hw hb hc).deeper (by decide)) ?_
  intro r1 σ1 hp1
  have hm1 := RM_fr hm hp1.2.2.2
  have h1 : σ1 0 = xs := (hp1.2.2.2 0 (by omega)).trans h0
  refine ev_aload_n dL_law_611 rfl ?_
  refine cVi0 dL_law_612 VL_89 ⟨_, rfl⟩ rfl ((tm_change (d := 20) hw hm1).deeper (by decide)) ?_
  intro r2 σ2 hp2
  refine ev_icmp_eq 712 dL_law_615 (by decide) (fun c615 => ?_) (fun c615 => absurd (hp1.1.trans hp2.1.symm) c615)
  exact K σ2 (LI_step (wf_change hw) hp1 hp2 h0 ht)
theorem law_held (hI : LI xs σ) (hi : i + 5 ≤ L) (hL : L ≤ 2560) (K : ∀ σ2, LI xs σ2 → ev mL_law 60 712 [some (.ref 0), some (.ref 2), some (.ref 35), some (.int (nI i))] [] (LY L) σ2 51 886 Q) : ev mL_law 60 620 [some (.ref 0), some (.ref 2), some (.ref 35), some (.int (nI i))] [] (LY L) σ 51 886 Q := by
  obtain ⟨β, hw, hb, hc, hm, h0, ht⟩ := hI
  refine ev_aload_n dL_law_620 rfl ?_
  refine ev_aload_n dL_law_621 rfl ?_
  refine ev_iload_n dL_law_622 rfl ?_
  refine ev_iconst 1 dL_law_623 (by decide) ?_
  refine ev_iadd dL_law_624 ?_
  rw [show nI i + 1 = nI (i + 1) from nI_add i 1]
  refine ev_iaload dL_law_625 rfl (vp_in_nI (by omega) (by omega)) ?_
  rw [nI_clamp (by omega), h0]
  refine ev_aload_n dL_law_626 rfl ?_
  refine ev_iload_n dL_law_627 rfl ?_
  refine ev_iconst 2 dL_law_628 (by decide) ?_
  refine ev_iadd dL_law_629 ?_
  rw [show nI i + 2 = nI (i + 2) from nI_add i 2]
  refine ev_iaload dL_law_630 rfl (vp_in_nI (by omega) (by omega)) ?_
  rw [nI_clamp (by omega), h0]
  refine cVi2 dL_law_631 VL_90 ⟨_, rfl⟩ rfl rfl rfl ((tc_held (d := 20) hw hb hc _ _).deeper (by decide)) ?_
  intro r1 σ1 hp1
  have hm1 := RM_fr hm hp1.2.2.2
  have h1 : σ1 0 = xs := (hp1.2.2.2 0 (by omega)).trans h0
  refine ev_aload_n dL_law_634 rfl ?_
  refine ev_aload_n dL_law_635 rfl ?_
  refine ev_iload_n dL_law_636 rfl ?_
  refine ev_iconst 1 dL_law_637 (by decide) ?_
  refine ev_iadd dL_law_638 ?_
  rw [show nI i + 1 = nI (i + 1) from nI_add i 1]
  refine ev_iaload dL_law_639 rfl (vp_in_nI (by omega) (by omega)) ?_
  rw [nI_clamp (by omega), h1]
  refine ev_aload_n dL_law_640 rfl ?_
  refine ev_iload_n dL_law_641 rfl ?_
  refine ev_iconst 2 dL_law_642 (by decide) ?_
  refine ev_iadd dL_law_643 ?_
  rw [show nI i + 2 = nI (i + 2) from nI_add i 2]
  refine ev_iaload dL_law_644 rfl (vp_in_nI (by omega) (by omega)) ?_
  rw [nI_clamp (by omega), h1]
  refine cVi2 dL_law_645 VL_93 ⟨_, rfl⟩ rfl rfl rfl ((tm_held (d := 20) hw hm1 _ _).deeper (by decide)) ?_
  intro r2 σ2 hp2
  refine ev_icmp_eq 712 dL_law_648 (by decide) (fun c648 => ?_) (fun c648 => absurd (hp1.1.trans hp2.1.symm) c648)
  exact K σ2 (LI_step (wf_held hw _ _) hp1 hp2 h0 ht)
theorem law_setting (hI : LI xs σ) (hi : i + 5 ≤ L) (hL : L ≤ 2560) (K : ∀ σ2, LI xs σ2 → ev mL_law 60 712 [some (.ref 0), some (.ref 2), some (.ref 35), some (.int (nI i))] [] (LY L) σ2 51 886 Q) : ev mL_law 60 653 [some (.ref 0), some (.ref 2), some (.ref 35), some (.int (nI i))] [] (LY L) σ 51 886 Q := by
  obtain ⟨β, hw, hb, hc, hm, h0, ht⟩ := hI
  refine ev_aload_n dL_law_653 rfl ?_
  refine ev_aload_n dL_law_654 rfl ?_
  refine ev_iload_n dL_law_655 rfl ?_
  refine ev_iconst 1 dL_law_656 (by decide) ?_
  refine ev_iadd dL_law_657 ?_
  rw [show nI i + 1 = nI (i + 1) from nI_add i 1]
  refine ev_iaload dL_law_658 rfl (vp_in_nI (by omega) (by omega)) ?_
  rw [nI_clamp (by omega), h0]
  refine cVi1 dL_law_659 VL_94 ⟨_, rfl⟩ rfl rfl ((tc_setting (d := 20) hw hb hc _).deeper (by decide)) ?_
  intro r1 σ1 hp1
  have hm1 := RM_fr hm hp1.2.2.2
  have h1 : σ1 0 = xs := (hp1.2.2.2 0 (by omega)).trans h0
  refine ev_aload_n dL_law_662 rfl ?_
  refine ev_aload_n dL_law_663 rfl ?_
  refine ev_iload_n dL_law_664 rfl ?_
  refine ev_iconst 1 dL_law_665 (by decide) ?_
  refine ev_iadd dL_law_666 ?_
  rw [show nI i + 1 = nI (i + 1) from nI_add i 1]
  refine ev_iaload dL_law_667 rfl (vp_in_nI (by omega) (by omega)) ?_
  rw [nI_clamp (by omega), h1]
  refine cVi1 dL_law_668 VL_97 ⟨_, rfl⟩ rfl rfl ((tm_setting (d := 20) hw hm1 _).deeper (by decide)) ?_
  intro r2 σ2 hp2
  refine ev_icmp_eq 712 dL_law_671 (by decide) (fun c671 => ?_) (fun c671 => absurd (hp1.1.trans hp2.1.symm) c671)
  exact K σ2 (LI_step (wf_setting hw _) hp1 hp2 h0 ht)
theorem law_stands (hI : LI xs σ) (hi : i + 5 ≤ L) (hL : L ≤ 2560) (K : ∀ σ2, LI xs σ2 → ev mL_law 60 712 [some (.ref 0), some (.ref 2), some (.ref 35), some (.int (nI i))] [] (LY L) σ2 51 886 Q) : ev mL_law 60 676 [some (.ref 0), some (.ref 2), some (.ref 35), some (.int (nI i))] [] (LY L) σ 51 886 Q := by
  obtain ⟨β, hw, hb, hc, hm, h0, ht⟩ := hI
  refine ev_aload_n dL_law_676 rfl ?_
  refine cVi0 dL_law_677 VL_98 ⟨_, rfl⟩ rfl ((tc_stands (d := 20) hw hb hc).deeper (by decide)) ?_
  intro r1 σ1 hp1
  have hm1 := RM_fr hm hp1.2.2.2
  have h1 : σ1 0 = xs := (hp1.2.2.2 0 (by omega)).trans h0
  refine ev_aload_n dL_law_680 rfl ?_
  refine cVi0 dL_law_681 VL_101 ⟨_, rfl⟩ rfl ((tm_stands (d := 20) hw hm1).deeper (by decide)) ?_
  intro r2 σ2 hp2
  refine ev_icmp_eq 712 dL_law_684 (by decide) (fun c684 => ?_) (fun c684 => absurd (hp1.1.trans hp2.1.symm) c684)
  exact K σ2 (LI_step (wf_stands hw) hp1 hp2 h0 ht)
theorem law_told (hI : LI xs σ) (hi : i + 5 ≤ L) (hL : L ≤ 2560) (K : ∀ σ2, LI xs σ2 → ev mL_law 60 712 [some (.ref 0), some (.ref 2), some (.ref 35), some (.int (nI i))] [] (LY L) σ2 51 886 Q) : ev mL_law 60 689 [some (.ref 0), some (.ref 2), some (.ref 35), some (.int (nI i))] [] (LY L) σ 51 886 Q := by
  obtain ⟨β, hw, hb, hc, hm, h0, ht⟩ := hI
  refine ev_aload_n dL_law_689 rfl ?_
  refine ev_aload_n dL_law_690 rfl ?_
  refine ev_iload_n dL_law_691 rfl ?_
  refine ev_iconst 1 dL_law_692 (by decide) ?_
  refine ev_iadd dL_law_693 ?_
  rw [show nI i + 1 = nI (i + 1) from nI_add i 1]
  refine ev_iaload dL_law_694 rfl (vp_in_nI (by omega) (by omega)) ?_
  rw [nI_clamp (by omega), h0]
  refine cVi1 dL_law_695 VL_102 ⟨_, rfl⟩ rfl rfl ((tc_told (d := 20) hw hb hc _).deeper (by decide)) ?_
  intro r1 σ1 hp1
  have hm1 := RM_fr hm hp1.2.2.2
  have h1 : σ1 0 = xs := (hp1.2.2.2 0 (by omega)).trans h0
  refine ev_aload_n dL_law_698 rfl ?_
  refine ev_aload_n dL_law_699 rfl ?_
  refine ev_iload_n dL_law_700 rfl ?_
  refine ev_iconst 1 dL_law_701 (by decide) ?_
  refine ev_iadd dL_law_702 ?_
  rw [show nI i + 1 = nI (i + 1) from nI_add i 1]
  refine ev_iaload dL_law_703 rfl (vp_in_nI (by omega) (by omega)) ?_
  rw [nI_clamp (by omega), h1]
  refine cVi1 dL_law_704 VL_105 ⟨_, rfl⟩ rfl rfl ((tm_told (d := 20) hw hm1 _).deeper (by decide)) ?_
  intro r2 σ2 hp2
  refine ev_icmp_eq 712 dL_law_707 (by decide) (fun c707 => ?_) (fun c707 => absurd (hp1.1.trans hp2.1.symm) c707)
  exact K σ2 (LI_step (wf_told hw _) hp1 hp2 h0 ht)
theorem sw22 (x : Int32) : x = 0 ∨ x = 1 ∨ x = 2 ∨ x = 3 ∨ x = 4 ∨ x = 5 ∨ x = 6 ∨ x = 7 ∨ x = 8 ∨ x = 9 ∨ x = 10 ∨ x = 11 ∨ x = 12 ∨ x = 13 ∨ x = 14 ∨ x = 15 ∨ x = 16 ∨ x = 17 ∨ x = 18 ∨ x = 19 ∨ x = 20 ∨ x = 21 ∨ (x.toInt < 0 ∨ 21 < x.toInt) := by
  simp only [← Int32.toInt_inj, show (0 : Int32).toInt = 0 from rfl, show (1 : Int32).toInt = 1 from rfl, show (2 : Int32).toInt = 2 from rfl, show (3 : Int32).toInt = 3 from rfl, show (4 : Int32).toInt = 4 from rfl, show (5 : Int32).toInt = 5 from rfl, show (6 : Int32).toInt = 6 from rfl, show (7 : Int32).toInt = 7 from rfl, show (8 : Int32).toInt = 8 from rfl, show (9 : Int32).toInt = 9 from rfl, show (10 : Int32).toInt = 10 from rfl, show (11 : Int32).toInt = 11 from rfl, show (12 : Int32).toInt = 12 from rfl, show (13 : Int32).toInt = 13 from rfl, show (14 : Int32).toInt = 14 from rfl, show (15 : Int32).toInt = 15 from rfl, show (16 : Int32).toInt = 16 from rfl, show (17 : Int32).toInt = 17 from rfl, show (18 : Int32).toInt = 18 from rfl, show (19 : Int32).toInt = 19 from rfl, show (20 : Int32).toInt = 20 from rfl, show (21 : Int32).toInt = 21 from rfl]; omega
theorem law_loop (hL : L ≤ 2560) : ∀ (n i : Nat), L < i + n + 5 → i ≤ L → ∀ σ, LI xs σ → ev mL_law 60 18 [some (.ref 0), some (.ref 2), some (.ref 35), some (.int (nI i))] [] (LY L) σ 51 886 (fun r _ _ => r = some (.int 1)) := by
  have key : ∀ i, i ≤ L → ((nI L - 5 < nI i) ↔ L < i + 5) := fun i hi => by
    rw [Int32.lt_iff_toInt_lt, show (5 : Int32) = nI 5 from rfl, pk_sub_toInt (by omega) (by decide), nI_toInt (by omega)]
    omega
  intro n
  induction n with
  | zero =>
    intro i hn hi σ hI
    refine ev_iload_n dL_law_18 rfl ?_
    refine ev_aload_n dL_law_19 rfl ?_
    refine ev_alen _ dL_law_20 rfl rfl ?_
    rw [show Int32.ofNat L = nI L from rfl]
    refine ev_iconst 5 dL_law_21 (by decide) ?_
    refine ev_isub dL_law_22 ?_
    refine ev_icmp_gt 718 dL_law_23 (by decide) (fun c23 => ?_) (fun c23 => absurd ((key i hi).mpr (by omega)) c23)
    refine ev_iconst 1 dL_law_718 (by decide) ?_
    refine ev_ireturn dL_law_719 rfl rfl rfl ?_
    rfl
  | succ n ih =>
    intro i hn hi σ hI
    by_cases hq : L < i + 5
    · refine ev_iload_n dL_law_18 rfl ?_
      refine ev_aload_n dL_law_19 rfl ?_
      refine ev_alen _ dL_law_20 rfl rfl ?_
      rw [show Int32.ofNat L = nI L from rfl]
      refine ev_iconst 5 dL_law_21 (by decide) ?_
      refine ev_isub dL_law_22 ?_
      refine ev_icmp_gt 718 dL_law_23 (by decide) (fun c23 => ?_) (fun c23 => absurd ((key i hi).mpr hq) c23)
      refine ev_iconst 1 dL_law_718 (by decide) ?_
      refine ev_ireturn dL_law_719 rfl rfl rfl ?_
      rfl
    · have nxt : ∀ σ2, LI xs σ2 → ev mL_law 60 712 [some (.ref 0), some (.ref 2), some (.ref 35), some (.int (nI i))] [] (LY L) σ2 51 886 (fun r _ _ => r = some (.int 1)) := by
        intro σ2 hI2
        refine ev_iinc _ dL_law_712 rfl rfl (by decide) ?_
        rw [show nI i + Int32.ofInt 5 = nI (i + 5) from nI_add i 5]
        refine ev_goto 18 dL_law_715 (by decide) ?_
        exact ih (i + 5) (by omega) (by omega) σ2 hI2
      refine ev_iload_n dL_law_18 rfl ?_
      refine ev_aload_n dL_law_19 rfl ?_
      refine ev_alen _ dL_law_20 rfl rfl ?_
      rw [show Int32.ofNat L = nI L from rfl]
      refine ev_iconst 5 dL_law_21 (by decide) ?_
      refine ev_isub dL_law_22 ?_
      refine ev_icmp_gt 718 dL_law_23 (by decide) (fun c23 => absurd ((key i hi).mp c23) hq) (fun _ => ?_)
      refine ev_aload_n dL_law_26 rfl ?_
      refine ev_iload_n dL_law_27 rfl ?_
      refine ev_iaload dL_law_28 rfl (vp_in_nI (by omega) (by omega)) ?_
      refine ev_bipush 31 dL_law_29 (by decide) ?_
      refine ev_iand dL_law_31 ?_
      generalize (σ 0 (nI i).toNatClampNeg &&& 31) = z
      have h5 : i + 5 ≤ L := by omega
      rcases sw22 z with rfl | rfl | rfl | rfl | rfl | rfl | rfl | rfl | rfl | rfl | rfl | rfl | rfl | rfl | rfl | rfl | rfl | rfl | rfl | rfl | rfl | rfl | hsw
      · refine ev_tableIn 136 dL_law_32 (by decide) (by decide) rfl (by decide) ?_
        exact law_feet hI h5 hL nxt
      · refine ev_tableIn 159 dL_law_32 (by decide) (by decide) rfl (by decide) ?_
        exact law_volt hI h5 hL nxt
      · refine ev_tableIn 192 dL_law_32 (by decide) (by decide) rfl (by decide) ?_
        exact law_unit hI h5 hL nxt
      · refine ev_tableIn 215 dL_law_32 (by decide) (by decide) rfl (by decide) ?_
        exact law_kind hI h5 hL nxt
      · refine ev_tableIn 238 dL_law_32 (by decide) (by decide) rfl (by decide) ?_
        exact law_use hI h5 hL nxt
      · refine ev_tableIn 281 dL_law_32 (by decide) (by decide) rfl (by decide) ?_
        exact law_about hI h5 hL nxt
      · refine ev_tableIn 314 dL_law_32 (by decide) (by decide) rfl (by decide) ?_
        exact law_wish hI h5 hL nxt
      · refine ev_tableIn 367 dL_law_32 (by decide) (by decide) rfl (by decide) ?_
        exact law_wished hI h5 hL nxt
      · refine ev_tableIn 400 dL_law_32 (by decide) (by decide) rfl (by decide) ?_
        exact law_fix hI h5 hL nxt
      · refine ev_tableIn 443 dL_law_32 (by decide) (by decide) rfl (by decide) ?_
        exact law_drop hI h5 hL nxt
      · refine ev_tableIn 456 dL_law_32 (by decide) (by decide) rfl (by decide) ?_
        exact law_best hI h5 hL nxt
      · refine ev_tableIn 469 dL_law_32 (by decide) (by decide) rfl (by decide) ?_
        exact law_given hI h5 hL nxt
      · refine ev_tableIn 502 dL_law_32 (by decide) (by decide) rfl (by decide) ?_
        exact law_crossings hI h5 hL nxt
      · refine ev_tableIn 515 dL_law_32 (by decide) (by decide) rfl (by decide) ?_
        exact law_blame hI h5 hL nxt
      · refine ev_tableIn 528 dL_law_32 (by decide) (by decide) rfl (by decide) ?_
        exact law_many hI h5 hL nxt
      · refine ev_tableIn 541 dL_law_32 (by decide) (by decide) rfl (by decide) ?_
        exact law_trial hI h5 hL nxt
      · refine ev_tableIn 594 dL_law_32 (by decide) (by decide) rfl (by decide) ?_
        exact law_hold hI h5 hL nxt
      · refine ev_tableIn 607 dL_law_32 (by decide) (by decide) rfl (by decide) ?_
        exact law_change hI h5 hL nxt
      · refine ev_tableIn 620 dL_law_32 (by decide) (by decide) rfl (by decide) ?_
        exact law_held hI h5 hL nxt
      · refine ev_tableIn 653 dL_law_32 (by decide) (by decide) rfl (by decide) ?_
        exact law_setting hI h5 hL nxt
      · refine ev_tableIn 676 dL_law_32 (by decide) (by decide) rfl (by decide) ?_
        exact law_stands hI h5 hL nxt
      · refine ev_tableIn 689 dL_law_32 (by decide) (by decide) rfl (by decide) ?_
        exact law_told hI h5 hL nxt
      · refine ev_tableOut 712 dL_law_32 hsw (by decide) ?_
        exact nxt σ hI
end LAW
