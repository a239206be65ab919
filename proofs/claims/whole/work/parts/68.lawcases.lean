/-! ===== the law: a call of each kind ===== -/
section
variable {l : Launch} {G : ez_G} {σ : es_S}
theorem lg_self (a : Int64) : lg_cmp a a = 0 := by simp [lg_cmp]
theorem law_ag {S new : sp_S} {good state : Prop} {val t y : Int32} {σ1 σ2 : es_S} (h1 : lR S good state val new t σ1) (h2 : mR S good state val new y σ2) (hk : ∀ k, (k < 46 ∨ 63 < k) → σ2 k = σ1 k) : σ2 46 0 = t ∧ (t = 0 → σ2 64 0 = y ∧ y = val) ∧ ∃ S', ci S' σ2 ∧ rm S' σ2 := by
  have hc : ∀ {S'}, ci S' σ1 → ci S' σ2 := fun h => ci_keep h (fun k hk' => hk k (Or.inl (by have := hk'.1; omega)))
  rcases h1 with ⟨a1, rfl, a3⟩ | ⟨a1, a2, rfl, a3⟩ | ⟨a1, a2, rfl, a3, a4⟩
  · rcases h2 with ⟨b1, b2, b3⟩ | ⟨b1, b2, b3, b4⟩ | ⟨b1, b2, b3, b4, b5⟩
    · exact ⟨b2, fun h => absurd h (by decide), S, hc a3, b3⟩
    · exact absurd b1 a1
    · exact absurd b1 a1
  · rcases h2 with ⟨b1, b2, b3⟩ | ⟨b1, b2, b3, b4⟩ | ⟨b1, b2, b3, b4, b5⟩
    · exact absurd a1 b1
    · exact ⟨b3, fun h => absurd h (by decide), S, hc a3, b4⟩
    · exact absurd b2 a2
  · rcases h2 with ⟨b1, b2, b3⟩ | ⟨b1, b2, b3, b4⟩ | ⟨b1, b2, b3, b4, b5⟩
    · exact absurd a1 b1
    · exact absurd a2 b2
    · exact ⟨b3, fun _ => ⟨by rw [hk 64 (Or.inr (by omega)), a3, b4], b4⟩, new, hc a4, b5⟩
theorem rm_46 {S : sp_S} {σ σ1 : es_S} (hm : rm S σ) (h : ∀ k, 46 ≤ k → k < 64 → σ1 k = σ k) : rm S σ1 := rm_off hm (by rw [h 46 (by omega) (by omega)]) (fun k g1 g2 => h k (by omega) (by omega))
theorem law_block (hl : l.stackTraces = false) {S : sp_S} (hc : ci S σ) (hm : rm S σ) {i : Int32} {uc us : Nat} {a5 a6 : Option Value} (hu : uc + 1 ≤ 1102 ∧ us + 6 ≤ 22063) (i1 : vp_in (i + 1) G.2.2.2.1) (i2 : vp_in (i + 2) G.2.2.2.1) (i3 : vp_in (i + 3) G.2.2.2.1) (i4 : vp_in (i + 4) G.2.2.2.1) {R : Option Value → es_S → Prop} {T : Nat → es_S → Prop}
    (nx : ∀ (S2 : sp_S) (σ2 : es_S) (b5 b6 : Option Value), ci S2 σ2 → rm S2 σ2 → ez_Ev l G X_LW_law (uc + 1) (us + 6) 1318 [some (.ref 901), some (.ref 0), some (.ref 46), some (.ref 64), some (.int i), b5, b6] [] (es_H σ2) (es_Q R T)) : ez_Ev l G X_LW_law uc us 136 [some (.ref 901), some (.ref 0), some (.ref 46), some (.ref 64), some (.int i), a5, a6] [] (es_H σ) (es_Q R T) := by
  refine ev_aload_n (i := 1) d_LW_law_136 rfl rfl ?_
  refine ev_aload_n (i := 0) d_LW_law_137 rfl rfl ?_
  refine ev_iload d_LW_law_138 rfl ?_
  refine ev_iconst (v := 1) d_LW_law_140 rfl ?_
  refine ev_iadd d_LW_law_141 ?_
  refine ev_sld d_LW_law_142 i1 ?_
  refine ev_aload_n (i := 0) d_LW_law_143 rfl rfl ?_
  refine ev_iload d_LW_law_144 rfl ?_
  refine ev_iconst (v := 2) d_LW_law_146 rfl ?_
  refine ev_iadd d_LW_law_147 ?_
  refine ev_sld d_LW_law_148 i2 ?_
  refine ev_aload_n (i := 0) d_LW_law_149 rfl rfl ?_
  refine ev_iload d_LW_law_150 rfl ?_
  refine ev_iconst (v := 3) d_LW_law_152 rfl ?_
  refine ev_iadd d_LW_law_153 ?_
  refine ev_sld d_LW_law_154 i3 ?_
  refine ev_aload_n (i := 3) d_LW_law_155 rfl rfl ?_
  refine es_callsI lk_LW_law_156 d_LW_law_156 (c_LW_block hl hc) rfl rfl ⟨⟨by decide, by decide⟩, hu.1, hu.2⟩ (Nat.le_of_ble_eq_true rfl) rfl hu (fun t σ1 h1 => ?_) (fun _ _ h => h.elim)
  have hm1 : rm S σ1 := rm_46 hm h1.2
  refine ev_istore d_LW_law_159 (by decide) ?_
  dsimp only [List.set_cons_zero, List.set_cons_succ]
  refine ev_aload_n (i := 2) d_LW_law_161 rfl rfl ?_
  refine ev_aload_n (i := 0) d_LW_law_162 rfl rfl ?_
  refine ev_iload d_LW_law_163 rfl ?_
  refine ev_iconst (v := 1) d_LW_law_165 rfl ?_
  refine ev_iadd d_LW_law_166 ?_
  refine ev_sld d_LW_law_167 i1 ?_
  refine ev_aload_n (i := 0) d_LW_law_168 rfl rfl ?_
  refine ev_iload d_LW_law_169 rfl ?_
  refine ev_iconst (v := 2) d_LW_law_171 rfl ?_
  refine ev_iadd d_LW_law_172 ?_
  refine ev_sld d_LW_law_173 i2 ?_
  refine ev_aload_n (i := 0) d_LW_law_174 rfl rfl ?_
  refine ev_iload d_LW_law_175 rfl ?_
  refine ev_iconst (v := 3) d_LW_law_177 rfl ?_
  refine ev_iadd d_LW_law_178 ?_
  refine ev_sld d_LW_law_179 i3 ?_
  refine es_callvI lk_LW_law_180 d_LW_law_180 rfl (c_MD_block hm1) rfl rfl ⟨⟨by decide, by decide⟩, hu.1, hu.2⟩ (Nat.le_of_ble_eq_true rfl) rfl hu (fun y σ2 h2 => ?_) (fun _ _ h => h.elim)
  obtain ⟨q1, q2, S2, q3, q4⟩ := law_ag h1.1 h2.1 h2.2
  refine ev_istore d_LW_law_183 (by decide) ?_
  dsimp only [List.set_cons_zero, List.set_cons_succ]
  refine ev_aload_n (i := 2) d_LW_law_185 rfl rfl ?_
  refine es_callvI lk_LW_law_186 d_LW_law_186 rfl c_MD_thrown rfl rfl ⟨⟨by decide, by decide⟩, hu.1, hu.2⟩ (Nat.le_of_ble_eq_true rfl) rfl hu (fun t3 σ3 h3 => ?_) (fun _ _ h => h.elim)
  obtain ⟨rfl, rfl⟩ := h3
  refine ev_iload d_LW_law_189 rfl ?_
  refine ev_icmp_eq d_LW_law_191 (fun _ => ?_) (fun h => absurd q1 h)
  refine ev_iload d_LW_law_196 rfl ?_
  refine ev_if_ne d_LW_law_198 (fun _ => ?_) (fun h0 => ?_)
  · refine ev_goto d_LW_law_213 ?_
    exact nx S2 σ3 _ _ q3 q4
  obtain ⟨q5, q6⟩ := q2 (by first | exact h0 | exact Decidable.not_not.mp h0)
  refine ev_aload_n (i := 3) d_LW_law_201 rfl rfl ?_
  refine ev_iconst (v := 0) d_LW_law_202 rfl ?_
  refine es_lald d_LW_law_203 rfl in_01 ?_
  rw [show σ3 64 (0 : Int32).toNatClampNeg = y from q5]
  refine ev_iload d_LW_law_204 rfl ?_
  refine ev_i2l d_LW_law_206 ?_
  refine ev_lcmp d_LW_law_207 ?_
  refine ev_if_eq d_LW_law_208 (fun _ => ?_) (fun h => absurd (lg_self _) h)
  refine ev_goto d_LW_law_213 ?_
  exact nx S2 σ3 _ _ q3 q4
theorem law_wire (hl : l.stackTraces = false) {S : sp_S} (hc : ci S σ) (hm : rm S σ) {i : Int32} {uc us : Nat} {a5 a6 : Option Value} (hu : uc + 1 ≤ 1102 ∧ us + 6 ≤ 22063) (i1 : vp_in (i + 1) G.2.2.2.1) (i2 : vp_in (i + 2) G.2.2.2.1) (i3 : vp_in (i + 3) G.2.2.2.1) (i4 : vp_in (i + 4) G.2.2.2.1) {R : Option Value → es_S → Prop} {T : Nat → es_S → Prop}
    (nx : ∀ (S2 : sp_S) (σ2 : es_S) (b5 b6 : Option Value), ci S2 σ2 → rm S2 σ2 → ez_Ev l G X_LW_law (uc + 1) (us + 6) 1318 [some (.ref 901), some (.ref 0), some (.ref 46), some (.ref 64), some (.int i), b5, b6] [] (es_H σ2) (es_Q R T)) : ez_Ev l G X_LW_law uc us 216 [some (.ref 901), some (.ref 0), some (.ref 46), some (.ref 64), some (.int i), a5, a6] [] (es_H σ) (es_Q R T) := by
  refine ev_aload_n (i := 1) d_LW_law_216 rfl rfl ?_
  refine ev_aload_n (i := 0) d_LW_law_217 rfl rfl ?_
  refine ev_iload d_LW_law_218 rfl ?_
  refine ev_iconst (v := 1) d_LW_law_220 rfl ?_
  refine ev_iadd d_LW_law_221 ?_
  refine ev_sld d_LW_law_222 i1 ?_
  refine ev_aload_n (i := 0) d_LW_law_223 rfl rfl ?_
  refine ev_iload d_LW_law_224 rfl ?_
  refine ev_iconst (v := 2) d_LW_law_226 rfl ?_
  refine ev_iadd d_LW_law_227 ?_
  refine ev_sld d_LW_law_228 i2 ?_
  refine ev_aload_n (i := 0) d_LW_law_229 rfl rfl ?_
  refine ev_iload d_LW_law_230 rfl ?_
  refine ev_iconst (v := 3) d_LW_law_232 rfl ?_
  refine ev_iadd d_LW_law_233 ?_
  refine ev_sld d_LW_law_234 i3 ?_
  refine ev_aload_n (i := 0) d_LW_law_235 rfl rfl ?_
  refine ev_iload d_LW_law_236 rfl ?_
  refine ev_iconst (v := 4) d_LW_law_238 rfl ?_
  refine ev_iadd d_LW_law_239 ?_
  refine ev_sld d_LW_law_240 i4 ?_
  refine ev_aload_n (i := 3) d_LW_law_241 rfl rfl ?_
  refine es_callsI lk_LW_law_242 d_LW_law_242 (c_LW_wire hl hc) rfl rfl ⟨⟨by decide, by decide⟩, hu.1, hu.2⟩ (Nat.le_of_ble_eq_true rfl) rfl hu (fun t σ1 h1 => ?_) (fun _ _ h => h.elim)
  have hm1 : rm S σ1 := rm_46 hm h1.2
  refine ev_istore d_LW_law_245 (by decide) ?_
  dsimp only [List.set_cons_zero, List.set_cons_succ]
  refine ev_aload_n (i := 2) d_LW_law_247 rfl rfl ?_
  refine ev_aload_n (i := 0) d_LW_law_248 rfl rfl ?_
  refine ev_iload d_LW_law_249 rfl ?_
  refine ev_iconst (v := 1) d_LW_law_251 rfl ?_
  refine ev_iadd d_LW_law_252 ?_
  refine ev_sld d_LW_law_253 i1 ?_
  refine ev_aload_n (i := 0) d_LW_law_254 rfl rfl ?_
  refine ev_iload d_LW_law_255 rfl ?_
  refine ev_iconst (v := 2) d_LW_law_257 rfl ?_
  refine ev_iadd d_LW_law_258 ?_
  refine ev_sld d_LW_law_259 i2 ?_
  refine ev_aload_n (i := 0) d_LW_law_260 rfl rfl ?_
  refine ev_iload d_LW_law_261 rfl ?_
  refine ev_iconst (v := 3) d_LW_law_263 rfl ?_
  refine ev_iadd d_LW_law_264 ?_
  refine ev_sld d_LW_law_265 i3 ?_
  refine ev_aload_n (i := 0) d_LW_law_266 rfl rfl ?_
  refine ev_iload d_LW_law_267 rfl ?_
  refine ev_iconst (v := 4) d_LW_law_269 rfl ?_
  refine ev_iadd d_LW_law_270 ?_
  refine ev_sld d_LW_law_271 i4 ?_
  refine es_callvI lk_LW_law_272 d_LW_law_272 rfl (c_MD_wire hm1) rfl rfl ⟨⟨by decide, by decide⟩, hu.1, hu.2⟩ (Nat.le_of_ble_eq_true rfl) rfl hu (fun y σ2 h2 => ?_) (fun _ _ h => h.elim)
  obtain ⟨q1, q2, S2, q3, q4⟩ := law_ag h1.1 h2.1 h2.2
  refine ev_istore d_LW_law_275 (by decide) ?_
  dsimp only [List.set_cons_zero, List.set_cons_succ]
  refine ev_aload_n (i := 2) d_LW_law_277 rfl rfl ?_
  refine es_callvI lk_LW_law_278 d_LW_law_278 rfl c_MD_thrown rfl rfl ⟨⟨by decide, by decide⟩, hu.1, hu.2⟩ (Nat.le_of_ble_eq_true rfl) rfl hu (fun t3 σ3 h3 => ?_) (fun _ _ h => h.elim)
  obtain ⟨rfl, rfl⟩ := h3
  refine ev_iload d_LW_law_281 rfl ?_
  refine ev_icmp_eq d_LW_law_283 (fun _ => ?_) (fun h => absurd q1 h)
  refine ev_iload d_LW_law_288 rfl ?_
  refine ev_if_ne d_LW_law_290 (fun _ => ?_) (fun h0 => ?_)
  · refine ev_goto d_LW_law_305 ?_
    exact nx S2 σ3 _ _ q3 q4
  obtain ⟨q5, q6⟩ := q2 (by first | exact h0 | exact Decidable.not_not.mp h0)
  refine ev_aload_n (i := 3) d_LW_law_293 rfl rfl ?_
  refine ev_iconst (v := 0) d_LW_law_294 rfl ?_
  refine es_lald d_LW_law_295 rfl in_01 ?_
  rw [show σ3 64 (0 : Int32).toNatClampNeg = y from q5]
  refine ev_iload d_LW_law_296 rfl ?_
  refine ev_i2l d_LW_law_298 ?_
  refine ev_lcmp d_LW_law_299 ?_
  refine ev_if_eq d_LW_law_300 (fun _ => ?_) (fun h => absurd (lg_self _) h)
  refine ev_goto d_LW_law_305 ?_
  exact nx S2 σ3 _ _ q3 q4
theorem law_out (hl : l.stackTraces = false) {S : sp_S} (hc : ci S σ) (hm : rm S σ) {i : Int32} {uc us : Nat} {a5 a6 : Option Value} (hu : uc + 1 ≤ 1102 ∧ us + 6 ≤ 22063) (i1 : vp_in (i + 1) G.2.2.2.1) (i2 : vp_in (i + 2) G.2.2.2.1) (i3 : vp_in (i + 3) G.2.2.2.1) (i4 : vp_in (i + 4) G.2.2.2.1) {R : Option Value → es_S → Prop} {T : Nat → es_S → Prop}
    (nx : ∀ (S2 : sp_S) (σ2 : es_S) (b5 b6 : Option Value), ci S2 σ2 → rm S2 σ2 → ez_Ev l G X_LW_law (uc + 1) (us + 6) 1318 [some (.ref 901), some (.ref 0), some (.ref 46), some (.ref 64), some (.int i), b5, b6] [] (es_H σ2) (es_Q R T)) : ez_Ev l G X_LW_law uc us 308 [some (.ref 901), some (.ref 0), some (.ref 46), some (.ref 64), some (.int i), a5, a6] [] (es_H σ) (es_Q R T) := by
  refine ev_aload_n (i := 1) d_LW_law_308 rfl rfl ?_
  refine ev_aload_n (i := 0) d_LW_law_309 rfl rfl ?_
  refine ev_iload d_LW_law_310 rfl ?_
  refine ev_iconst (v := 1) d_LW_law_312 rfl ?_
  refine ev_iadd d_LW_law_313 ?_
  refine ev_sld d_LW_law_314 i1 ?_
  refine ev_aload_n (i := 0) d_LW_law_315 rfl rfl ?_
  refine ev_iload d_LW_law_316 rfl ?_
  refine ev_iconst (v := 2) d_LW_law_318 rfl ?_
  refine ev_iadd d_LW_law_319 ?_
  refine ev_sld d_LW_law_320 i2 ?_
  refine ev_aload_n (i := 0) d_LW_law_321 rfl rfl ?_
  refine ev_iload d_LW_law_322 rfl ?_
  refine ev_iconst (v := 3) d_LW_law_324 rfl ?_
  refine ev_iadd d_LW_law_325 ?_
  refine ev_sld d_LW_law_326 i3 ?_
  refine ev_aload_n (i := 3) d_LW_law_327 rfl rfl ?_
  refine es_callsI lk_LW_law_328 d_LW_law_328 (c_LW_out hl hc) rfl rfl ⟨⟨by decide, by decide⟩, hu.1, hu.2⟩ (Nat.le_of_ble_eq_true rfl) rfl hu (fun t σ1 h1 => ?_) (fun _ _ h => h.elim)
  have hm1 : rm S σ1 := rm_46 hm h1.2
  refine ev_istore d_LW_law_331 (by decide) ?_
  dsimp only [List.set_cons_zero, List.set_cons_succ]
  refine ev_aload_n (i := 2) d_LW_law_333 rfl rfl ?_
  refine ev_aload_n (i := 0) d_LW_law_334 rfl rfl ?_
  refine ev_iload d_LW_law_335 rfl ?_
  refine ev_iconst (v := 1) d_LW_law_337 rfl ?_
  refine ev_iadd d_LW_law_338 ?_
  refine ev_sld d_LW_law_339 i1 ?_
  refine ev_aload_n (i := 0) d_LW_law_340 rfl rfl ?_
  refine ev_iload d_LW_law_341 rfl ?_
  refine ev_iconst (v := 2) d_LW_law_343 rfl ?_
  refine ev_iadd d_LW_law_344 ?_
  refine ev_sld d_LW_law_345 i2 ?_
  refine ev_aload_n (i := 0) d_LW_law_346 rfl rfl ?_
  refine ev_iload d_LW_law_347 rfl ?_
  refine ev_iconst (v := 3) d_LW_law_349 rfl ?_
  refine ev_iadd d_LW_law_350 ?_
  refine ev_sld d_LW_law_351 i3 ?_
  refine es_callvI lk_LW_law_352 d_LW_law_352 rfl (c_MD_out hm1) rfl rfl ⟨⟨by decide, by decide⟩, hu.1, hu.2⟩ (Nat.le_of_ble_eq_true rfl) rfl hu (fun y σ2 h2 => ?_) (fun _ _ h => h.elim)
  obtain ⟨q1, q2, S2, q3, q4⟩ := law_ag h1.1 h2.1 h2.2
  refine ev_istore d_LW_law_355 (by decide) ?_
  dsimp only [List.set_cons_zero, List.set_cons_succ]
  refine ev_aload_n (i := 2) d_LW_law_357 rfl rfl ?_
  refine es_callvI lk_LW_law_358 d_LW_law_358 rfl c_MD_thrown rfl rfl ⟨⟨by decide, by decide⟩, hu.1, hu.2⟩ (Nat.le_of_ble_eq_true rfl) rfl hu (fun t3 σ3 h3 => ?_) (fun _ _ h => h.elim)
  obtain ⟨rfl, rfl⟩ := h3
  refine ev_iload d_LW_law_361 rfl ?_
  refine ev_icmp_eq d_LW_law_363 (fun _ => ?_) (fun h => absurd q1 h)
  refine ev_iload d_LW_law_368 rfl ?_
  refine ev_if_ne d_LW_law_370 (fun _ => ?_) (fun h0 => ?_)
  · refine ev_goto d_LW_law_385 ?_
    exact nx S2 σ3 _ _ q3 q4
  obtain ⟨q5, q6⟩ := q2 (by first | exact h0 | exact Decidable.not_not.mp h0)
  refine ev_aload_n (i := 3) d_LW_law_373 rfl rfl ?_
  refine ev_iconst (v := 0) d_LW_law_374 rfl ?_
  refine es_lald d_LW_law_375 rfl in_01 ?_
  rw [show σ3 64 (0 : Int32).toNatClampNeg = y from q5]
  refine ev_iload d_LW_law_376 rfl ?_
  refine ev_i2l d_LW_law_378 ?_
  refine ev_lcmp d_LW_law_379 ?_
  refine ev_if_eq d_LW_law_380 (fun _ => ?_) (fun h => absurd (lg_self _) h)
  refine ev_goto d_LW_law_385 ?_
  exact nx S2 σ3 _ _ q3 q4
theorem law_bar (hl : l.stackTraces = false) {S : sp_S} (hc : ci S σ) (hm : rm S σ) {i : Int32} {uc us : Nat} {a5 a6 : Option Value} (hu : uc + 1 ≤ 1102 ∧ us + 6 ≤ 22063) (i1 : vp_in (i + 1) G.2.2.2.1) (i2 : vp_in (i + 2) G.2.2.2.1) (i3 : vp_in (i + 3) G.2.2.2.1) (i4 : vp_in (i + 4) G.2.2.2.1) {R : Option Value → es_S → Prop} {T : Nat → es_S → Prop}
    (nx : ∀ (S2 : sp_S) (σ2 : es_S) (b5 b6 : Option Value), ci S2 σ2 → rm S2 σ2 → ez_Ev l G X_LW_law (uc + 1) (us + 6) 1318 [some (.ref 901), some (.ref 0), some (.ref 46), some (.ref 64), some (.int i), b5, b6] [] (es_H σ2) (es_Q R T)) : ez_Ev l G X_LW_law uc us 388 [some (.ref 901), some (.ref 0), some (.ref 46), some (.ref 64), some (.int i), a5, a6] [] (es_H σ) (es_Q R T) := by
  refine ev_aload_n (i := 1) d_LW_law_388 rfl rfl ?_
  refine ev_aload_n (i := 0) d_LW_law_389 rfl rfl ?_
  refine ev_iload d_LW_law_390 rfl ?_
  refine ev_iconst (v := 1) d_LW_law_392 rfl ?_
  refine ev_iadd d_LW_law_393 ?_
  refine ev_sld d_LW_law_394 i1 ?_
  refine ev_aload_n (i := 0) d_LW_law_395 rfl rfl ?_
  refine ev_iload d_LW_law_396 rfl ?_
  refine ev_iconst (v := 2) d_LW_law_398 rfl ?_
  refine ev_iadd d_LW_law_399 ?_
  refine ev_sld d_LW_law_400 i2 ?_
  refine ev_if_eq d_LW_law_401 (fun hz => ?_) (fun hz => ?_)
  · skip
    refine ev_iconst (v := 0) d_LW_law_408 rfl ?_
    refine ev_aload_n (i := 3) d_LW_law_409 rfl rfl ?_
    refine es_callsI lk_LW_law_410 d_LW_law_410 (c_LW_bar hl hc (c := false)) rfl rfl ⟨⟨by decide, by decide⟩, hu.1, hu.2⟩ (Nat.le_of_ble_eq_true rfl) rfl hu (fun t σ1 h1 => ?_) (fun _ _ h => h.elim)
    have hm1 : rm S σ1 := rm_46 hm h1.2
    refine ev_istore d_LW_law_413 (by decide) ?_
    dsimp only [List.set_cons_zero, List.set_cons_succ]
    refine ev_aload_n (i := 2) d_LW_law_415 rfl rfl ?_
    refine ev_aload_n (i := 0) d_LW_law_416 rfl rfl ?_
    refine ev_iload d_LW_law_417 rfl ?_
    refine ev_iconst (v := 1) d_LW_law_419 rfl ?_
    refine ev_iadd d_LW_law_420 ?_
    refine ev_sld d_LW_law_421 i1 ?_
    refine ev_aload_n (i := 0) d_LW_law_422 rfl rfl ?_
    refine ev_iload d_LW_law_423 rfl ?_
    refine ev_iconst (v := 2) d_LW_law_425 rfl ?_
    refine ev_iadd d_LW_law_426 ?_
    refine ev_sld d_LW_law_427 i2 ?_
    refine ev_if_eq d_LW_law_428 (fun _ => ?_) (fun h => absurd hz h)
    refine ev_iconst (v := 0) d_LW_law_435 rfl ?_
    refine es_callvI lk_LW_law_436 d_LW_law_436 rfl (c_MD_bar hm1 (c := false)) rfl rfl ⟨⟨by decide, by decide⟩, hu.1, hu.2⟩ (Nat.le_of_ble_eq_true rfl) rfl hu (fun y σ2 h2 => ?_) (fun _ _ h => h.elim)
    obtain ⟨q1, q2, S2, q3, q4⟩ := law_ag h1.1 h2.1 h2.2
    refine ev_istore d_LW_law_439 (by decide) ?_
    dsimp only [List.set_cons_zero, List.set_cons_succ]
    refine ev_aload_n (i := 2) d_LW_law_441 rfl rfl ?_
    refine es_callvI lk_LW_law_442 d_LW_law_442 rfl c_MD_thrown rfl rfl ⟨⟨by decide, by decide⟩, hu.1, hu.2⟩ (Nat.le_of_ble_eq_true rfl) rfl hu (fun t3 σ3 h3 => ?_) (fun _ _ h => h.elim)
    obtain ⟨rfl, rfl⟩ := h3
    refine ev_iload d_LW_law_445 rfl ?_
    refine ev_icmp_eq d_LW_law_447 (fun _ => ?_) (fun h => absurd q1 h)
    refine ev_iload d_LW_law_452 rfl ?_
    refine ev_if_ne d_LW_law_454 (fun _ => ?_) (fun h0 => ?_)
    · refine ev_goto d_LW_law_476 ?_
      exact nx S2 σ3 _ _ q3 q4
    obtain ⟨q5, q6⟩ := q2 (by first | exact h0 | exact Decidable.not_not.mp h0)
    refine ev_aload_n (i := 3) d_LW_law_457 rfl rfl ?_
    refine ev_iconst (v := 0) d_LW_law_458 rfl ?_
    refine es_lald d_LW_law_459 rfl in_01 ?_
    rw [show σ3 64 (0 : Int32).toNatClampNeg = y from q5]
    refine ev_iload d_LW_law_460 rfl ?_
    refine ev_if_eq d_LW_law_462 (fun hy => ?_) (fun hy => ?_)
    · rw [hy]
      refine ev_lconst (v := (0 : Int32).toInt64) d_LW_law_469 (by decide) ?_
      refine ev_lcmp d_LW_law_470 ?_
      refine ev_if_eq d_LW_law_471 (fun _ => ?_) (fun h => absurd (lg_self _) h)
      refine ev_goto d_LW_law_476 ?_
      exact nx S2 σ3 _ _ q3 q4
    · rw [show y = 1 from by rw [q6]; rw [q6] at hy; exact (eb_1 hy).symm]
      refine ev_lconst (v := (1 : Int32).toInt64) d_LW_law_465 (by decide) ?_
      refine ev_goto d_LW_law_466 ?_
      refine ev_lcmp d_LW_law_470 ?_
      refine ev_if_eq d_LW_law_471 (fun _ => ?_) (fun h => absurd (lg_self _) h)
      refine ev_goto d_LW_law_476 ?_
      exact nx S2 σ3 _ _ q3 q4
  · skip
    refine ev_iconst (v := 1) d_LW_law_404 rfl ?_
    refine ev_goto d_LW_law_405 ?_
    refine ev_aload_n (i := 3) d_LW_law_409 rfl rfl ?_
    refine es_callsI lk_LW_law_410 d_LW_law_410 (c_LW_bar hl hc (c := true)) rfl rfl ⟨⟨by decide, by decide⟩, hu.1, hu.2⟩ (Nat.le_of_ble_eq_true rfl) rfl hu (fun t σ1 h1 => ?_) (fun _ _ h => h.elim)
    have hm1 : rm S σ1 := rm_46 hm h1.2
    refine ev_istore d_LW_law_413 (by decide) ?_
    dsimp only [List.set_cons_zero, List.set_cons_succ]
    refine ev_aload_n (i := 2) d_LW_law_415 rfl rfl ?_
    refine ev_aload_n (i := 0) d_LW_law_416 rfl rfl ?_
    refine ev_iload d_LW_law_417 rfl ?_
    refine ev_iconst (v := 1) d_LW_law_419 rfl ?_
    refine ev_iadd d_LW_law_420 ?_
    refine ev_sld d_LW_law_421 i1 ?_
    refine ev_aload_n (i := 0) d_LW_law_422 rfl rfl ?_
    refine ev_iload d_LW_law_423 rfl ?_
    refine ev_iconst (v := 2) d_LW_law_425 rfl ?_
    refine ev_iadd d_LW_law_426 ?_
    refine ev_sld d_LW_law_427 i2 ?_
    refine ev_if_eq d_LW_law_428 (fun h => absurd h hz) (fun _ => ?_)
    refine ev_iconst (v := 1) d_LW_law_431 rfl ?_
    refine ev_goto d_LW_law_432 ?_
    refine es_callvI lk_LW_law_436 d_LW_law_436 rfl (c_MD_bar hm1 (c := true)) rfl rfl ⟨⟨by decide, by decide⟩, hu.1, hu.2⟩ (Nat.le_of_ble_eq_true rfl) rfl hu (fun y σ2 h2 => ?_) (fun _ _ h => h.elim)
    obtain ⟨q1, q2, S2, q3, q4⟩ := law_ag h1.1 h2.1 h2.2
    refine ev_istore d_LW_law_439 (by decide) ?_
    dsimp only [List.set_cons_zero, List.set_cons_succ]
    refine ev_aload_n (i := 2) d_LW_law_441 rfl rfl ?_
    refine es_callvI lk_LW_law_442 d_LW_law_442 rfl c_MD_thrown rfl rfl ⟨⟨by decide, by decide⟩, hu.1, hu.2⟩ (Nat.le_of_ble_eq_true rfl) rfl hu (fun t3 σ3 h3 => ?_) (fun _ _ h => h.elim)
    obtain ⟨rfl, rfl⟩ := h3
    refine ev_iload d_LW_law_445 rfl ?_
    refine ev_icmp_eq d_LW_law_447 (fun _ => ?_) (fun h => absurd q1 h)
    refine ev_iload d_LW_law_452 rfl ?_
    refine ev_if_ne d_LW_law_454 (fun _ => ?_) (fun h0 => ?_)
    · refine ev_goto d_LW_law_476 ?_
      exact nx S2 σ3 _ _ q3 q4
    obtain ⟨q5, q6⟩ := q2 (by first | exact h0 | exact Decidable.not_not.mp h0)
    refine ev_aload_n (i := 3) d_LW_law_457 rfl rfl ?_
    refine ev_iconst (v := 0) d_LW_law_458 rfl ?_
    refine es_lald d_LW_law_459 rfl in_01 ?_
    rw [show σ3 64 (0 : Int32).toNatClampNeg = y from q5]
    refine ev_iload d_LW_law_460 rfl ?_
    refine ev_if_eq d_LW_law_462 (fun hy => ?_) (fun hy => ?_)
    · rw [hy]
      refine ev_lconst (v := (0 : Int32).toInt64) d_LW_law_469 (by decide) ?_
      refine ev_lcmp d_LW_law_470 ?_
      refine ev_if_eq d_LW_law_471 (fun _ => ?_) (fun h => absurd (lg_self _) h)
      refine ev_goto d_LW_law_476 ?_
      exact nx S2 σ3 _ _ q3 q4
    · rw [show y = 1 from by rw [q6]; rw [q6] at hy; exact (eb_1 hy).symm]
      refine ev_lconst (v := (1 : Int32).toInt64) d_LW_law_465 (by decide) ?_
      refine ev_goto d_LW_law_466 ?_
      refine ev_lcmp d_LW_law_470 ?_
      refine ev_if_eq d_LW_law_471 (fun _ => ?_) (fun h => absurd (lg_self _) h)
      refine ev_goto d_LW_law_476 ?_
      exact nx S2 σ3 _ _ q3 q4
theorem law_wrong (hl : l.stackTraces = false) {S : sp_S} (hc : ci S σ) (hm : rm S σ) {i : Int32} {uc us : Nat} {a5 a6 : Option Value} (hu : uc + 1 ≤ 1102 ∧ us + 6 ≤ 22063) (i1 : vp_in (i + 1) G.2.2.2.1) (i2 : vp_in (i + 2) G.2.2.2.1) (i3 : vp_in (i + 3) G.2.2.2.1) (i4 : vp_in (i + 4) G.2.2.2.1) {R : Option Value → es_S → Prop} {T : Nat → es_S → Prop}
    (nx : ∀ (S2 : sp_S) (σ2 : es_S) (b5 b6 : Option Value), ci S2 σ2 → rm S2 σ2 → ez_Ev l G X_LW_law (uc + 1) (us + 6) 1318 [some (.ref 901), some (.ref 0), some (.ref 46), some (.ref 64), some (.int i), b5, b6] [] (es_H σ2) (es_Q R T)) : ez_Ev l G X_LW_law uc us 479 [some (.ref 901), some (.ref 0), some (.ref 46), some (.ref 64), some (.int i), a5, a6] [] (es_H σ) (es_Q R T) := by
  refine ev_aload_n (i := 1) d_LW_law_479 rfl rfl ?_
  refine ev_aload_n (i := 0) d_LW_law_480 rfl rfl ?_
  refine ev_iload d_LW_law_481 rfl ?_
  refine ev_iconst (v := 1) d_LW_law_483 rfl ?_
  refine ev_iadd d_LW_law_484 ?_
  refine ev_sld d_LW_law_485 i1 ?_
  refine ev_aload_n (i := 3) d_LW_law_486 rfl rfl ?_
  refine es_callsI lk_LW_law_487 d_LW_law_487 (c_LW_wrong hl hc) rfl rfl ⟨⟨by decide, by decide⟩, hu.1, hu.2⟩ (Nat.le_of_ble_eq_true rfl) rfl hu (fun t σ1 h1 => ?_) (fun _ _ h => h.elim)
  have hm1 : rm S σ1 := rm_46 hm h1.2
  refine ev_istore d_LW_law_490 (by decide) ?_
  dsimp only [List.set_cons_zero, List.set_cons_succ]
  refine ev_aload_n (i := 2) d_LW_law_492 rfl rfl ?_
  refine ev_aload_n (i := 0) d_LW_law_493 rfl rfl ?_
  refine ev_iload d_LW_law_494 rfl ?_
  refine ev_iconst (v := 1) d_LW_law_496 rfl ?_
  refine ev_iadd d_LW_law_497 ?_
  refine ev_sld d_LW_law_498 i1 ?_
  refine es_callvI lk_LW_law_499 d_LW_law_499 rfl (c_MD_wrong hm1) rfl rfl ⟨⟨by decide, by decide⟩, hu.1, hu.2⟩ (Nat.le_of_ble_eq_true rfl) rfl hu (fun y σ2 h2 => ?_) (fun _ _ h => h.elim)
  obtain ⟨q1, q2, S2, q3, q4⟩ := law_ag h1.1 h2.1 h2.2
  refine ev_istore d_LW_law_502 (by decide) ?_
  dsimp only [List.set_cons_zero, List.set_cons_succ]
  refine ev_aload_n (i := 2) d_LW_law_504 rfl rfl ?_
  refine es_callvI lk_LW_law_505 d_LW_law_505 rfl c_MD_thrown rfl rfl ⟨⟨by decide, by decide⟩, hu.1, hu.2⟩ (Nat.le_of_ble_eq_true rfl) rfl hu (fun t3 σ3 h3 => ?_) (fun _ _ h => h.elim)
  obtain ⟨rfl, rfl⟩ := h3
  refine ev_iload d_LW_law_508 rfl ?_
  refine ev_icmp_eq d_LW_law_510 (fun _ => ?_) (fun h => absurd q1 h)
  refine ev_iload d_LW_law_515 rfl ?_
  refine ev_if_ne d_LW_law_517 (fun _ => ?_) (fun h0 => ?_)
  · refine ev_goto d_LW_law_532 ?_
    exact nx S2 σ3 _ _ q3 q4
  obtain ⟨q5, q6⟩ := q2 (by first | exact h0 | exact Decidable.not_not.mp h0)
  refine ev_aload_n (i := 3) d_LW_law_520 rfl rfl ?_
  refine ev_iconst (v := 0) d_LW_law_521 rfl ?_
  refine es_lald d_LW_law_522 rfl in_01 ?_
  rw [show σ3 64 (0 : Int32).toNatClampNeg = y from q5]
  refine ev_iload d_LW_law_523 rfl ?_
  refine ev_i2l d_LW_law_525 ?_
  refine ev_lcmp d_LW_law_526 ?_
  refine ev_if_eq d_LW_law_527 (fun _ => ?_) (fun h => absurd (lg_self _) h)
  refine ev_goto d_LW_law_532 ?_
  exact nx S2 σ3 _ _ q3 q4
theorem law_value (hl : l.stackTraces = false) {S : sp_S} (hc : ci S σ) (hm : rm S σ) {i : Int32} {uc us : Nat} {a5 a6 : Option Value} (hu : uc + 1 ≤ 1102 ∧ us + 6 ≤ 22063) (i1 : vp_in (i + 1) G.2.2.2.1) (i2 : vp_in (i + 2) G.2.2.2.1) (i3 : vp_in (i + 3) G.2.2.2.1) (i4 : vp_in (i + 4) G.2.2.2.1) {R : Option Value → es_S → Prop} {T : Nat → es_S → Prop}
    (nx : ∀ (S2 : sp_S) (σ2 : es_S) (b5 b6 : Option Value), ci S2 σ2 → rm S2 σ2 → ez_Ev l G X_LW_law (uc + 1) (us + 6) 1318 [some (.ref 901), some (.ref 0), some (.ref 46), some (.ref 64), some (.int i), b5, b6] [] (es_H σ2) (es_Q R T)) : ez_Ev l G X_LW_law uc us 535 [some (.ref 901), some (.ref 0), some (.ref 46), some (.ref 64), some (.int i), a5, a6] [] (es_H σ) (es_Q R T) := by
  refine ev_aload_n (i := 1) d_LW_law_535 rfl rfl ?_
  refine ev_aload_n (i := 0) d_LW_law_536 rfl rfl ?_
  refine ev_iload d_LW_law_537 rfl ?_
  refine ev_iconst (v := 1) d_LW_law_539 rfl ?_
  refine ev_iadd d_LW_law_540 ?_
  refine ev_sld d_LW_law_541 i1 ?_
  refine ev_aload_n (i := 0) d_LW_law_542 rfl rfl ?_
  refine ev_iload d_LW_law_543 rfl ?_
  refine ev_iconst (v := 2) d_LW_law_545 rfl ?_
  refine ev_iadd d_LW_law_546 ?_
  refine ev_sld d_LW_law_547 i2 ?_
  refine ev_aload_n (i := 0) d_LW_law_548 rfl rfl ?_
  refine ev_iload d_LW_law_549 rfl ?_
  refine ev_iconst (v := 3) d_LW_law_551 rfl ?_
  refine ev_iadd d_LW_law_552 ?_
  refine ev_sld d_LW_law_553 i3 ?_
  refine ev_aload_n (i := 0) d_LW_law_554 rfl rfl ?_
  refine ev_iload d_LW_law_555 rfl ?_
  refine ev_iconst (v := 4) d_LW_law_557 rfl ?_
  refine ev_iadd d_LW_law_558 ?_
  refine ev_sld d_LW_law_559 i4 ?_
  refine ev_aload_n (i := 3) d_LW_law_560 rfl rfl ?_
  refine es_callsI lk_LW_law_561 d_LW_law_561 (c_LW_value hl hc) rfl rfl ⟨⟨by decide, by decide⟩, hu.1, hu.2⟩ (Nat.le_of_ble_eq_true rfl) rfl hu (fun t σ1 h1 => ?_) (fun _ _ h => h.elim)
  have hm1 : rm S σ1 := rm_46 hm h1.2
  refine ev_istore d_LW_law_564 (by decide) ?_
  dsimp only [List.set_cons_zero, List.set_cons_succ]
  refine ev_aload_n (i := 2) d_LW_law_566 rfl rfl ?_
  refine ev_aload_n (i := 0) d_LW_law_567 rfl rfl ?_
  refine ev_iload d_LW_law_568 rfl ?_
  refine ev_iconst (v := 1) d_LW_law_570 rfl ?_
  refine ev_iadd d_LW_law_571 ?_
  refine ev_sld d_LW_law_572 i1 ?_
  refine ev_aload_n (i := 0) d_LW_law_573 rfl rfl ?_
  refine ev_iload d_LW_law_574 rfl ?_
  refine ev_iconst (v := 2) d_LW_law_576 rfl ?_
  refine ev_iadd d_LW_law_577 ?_
  refine ev_sld d_LW_law_578 i2 ?_
  refine ev_aload_n (i := 0) d_LW_law_579 rfl rfl ?_
  refine ev_iload d_LW_law_580 rfl ?_
  refine ev_iconst (v := 3) d_LW_law_582 rfl ?_
  refine ev_iadd d_LW_law_583 ?_
  refine ev_sld d_LW_law_584 i3 ?_
  refine ev_aload_n (i := 0) d_LW_law_585 rfl rfl ?_
  refine ev_iload d_LW_law_586 rfl ?_
  refine ev_iconst (v := 4) d_LW_law_588 rfl ?_
  refine ev_iadd d_LW_law_589 ?_
  refine ev_sld d_LW_law_590 i4 ?_
  refine es_callvI lk_LW_law_591 d_LW_law_591 rfl (c_MD_value hm1) rfl rfl ⟨⟨by decide, by decide⟩, hu.1, hu.2⟩ (Nat.le_of_ble_eq_true rfl) rfl hu (fun y σ2 h2 => ?_) (fun _ _ h => h.elim)
  obtain ⟨q1, q2, S2, q3, q4⟩ := law_ag h1.1 h2.1 h2.2
  refine ev_istore d_LW_law_594 (by decide) ?_
  dsimp only [List.set_cons_zero, List.set_cons_succ]
  refine ev_aload_n (i := 2) d_LW_law_596 rfl rfl ?_
  refine es_callvI lk_LW_law_597 d_LW_law_597 rfl c_MD_thrown rfl rfl ⟨⟨by decide, by decide⟩, hu.1, hu.2⟩ (Nat.le_of_ble_eq_true rfl) rfl hu (fun t3 σ3 h3 => ?_) (fun _ _ h => h.elim)
  obtain ⟨rfl, rfl⟩ := h3
  refine ev_iload d_LW_law_600 rfl ?_
  refine ev_icmp_eq d_LW_law_602 (fun _ => ?_) (fun h => absurd q1 h)
  refine ev_iload d_LW_law_607 rfl ?_
  refine ev_if_ne d_LW_law_609 (fun _ => ?_) (fun h0 => ?_)
  · refine ev_goto d_LW_law_624 ?_
    exact nx S2 σ3 _ _ q3 q4
  obtain ⟨q5, q6⟩ := q2 (by first | exact h0 | exact Decidable.not_not.mp h0)
  refine ev_aload_n (i := 3) d_LW_law_612 rfl rfl ?_
  refine ev_iconst (v := 0) d_LW_law_613 rfl ?_
  refine es_lald d_LW_law_614 rfl in_01 ?_
  rw [show σ3 64 (0 : Int32).toNatClampNeg = y from q5]
  refine ev_iload d_LW_law_615 rfl ?_
  refine ev_i2l d_LW_law_617 ?_
  refine ev_lcmp d_LW_law_618 ?_
  refine ev_if_eq d_LW_law_619 (fun _ => ?_) (fun h => absurd (lg_self _) h)
  refine ev_goto d_LW_law_624 ?_
  exact nx S2 σ3 _ _ q3 q4
theorem law_tick (hl : l.stackTraces = false) {S : sp_S} (hc : ci S σ) (hm : rm S σ) {i : Int32} {uc us : Nat} {a5 a6 : Option Value} (hu : uc + 1 ≤ 1102 ∧ us + 6 ≤ 22063) (i1 : vp_in (i + 1) G.2.2.2.1) (i2 : vp_in (i + 2) G.2.2.2.1) (i3 : vp_in (i + 3) G.2.2.2.1) (i4 : vp_in (i + 4) G.2.2.2.1) {R : Option Value → es_S → Prop} {T : Nat → es_S → Prop}
    (nx : ∀ (S2 : sp_S) (σ2 : es_S) (b5 b6 : Option Value), ci S2 σ2 → rm S2 σ2 → ez_Ev l G X_LW_law (uc + 1) (us + 6) 1318 [some (.ref 901), some (.ref 0), some (.ref 46), some (.ref 64), some (.int i), b5, b6] [] (es_H σ2) (es_Q R T)) : ez_Ev l G X_LW_law uc us 627 [some (.ref 901), some (.ref 0), some (.ref 46), some (.ref 64), some (.int i), a5, a6] [] (es_H σ) (es_Q R T) := by
  refine ev_aload_n (i := 1) d_LW_law_627 rfl rfl ?_
  refine ev_aload_n (i := 0) d_LW_law_628 rfl rfl ?_
  refine ev_iload d_LW_law_629 rfl ?_
  refine ev_iconst (v := 1) d_LW_law_631 rfl ?_
  refine ev_iadd d_LW_law_632 ?_
  refine ev_sld d_LW_law_633 i1 ?_
  refine ev_aload_n (i := 0) d_LW_law_634 rfl rfl ?_
  refine ev_iload d_LW_law_635 rfl ?_
  refine ev_iconst (v := 2) d_LW_law_637 rfl ?_
  refine ev_iadd d_LW_law_638 ?_
  refine ev_sld d_LW_law_639 i2 ?_
  refine ev_aload_n (i := 0) d_LW_law_640 rfl rfl ?_
  refine ev_iload d_LW_law_641 rfl ?_
  refine ev_iconst (v := 3) d_LW_law_643 rfl ?_
  refine ev_iadd d_LW_law_644 ?_
  refine ev_sld d_LW_law_645 i3 ?_
  refine ev_aload_n (i := 3) d_LW_law_646 rfl rfl ?_
  refine es_callsI lk_LW_law_647 d_LW_law_647 (c_LW_tick hl hc) rfl rfl ⟨⟨by decide, by decide⟩, hu.1, hu.2⟩ (Nat.le_of_ble_eq_true rfl) rfl hu (fun t σ1 h1 => ?_) (fun _ _ h => h.elim)
  have hm1 : rm S σ1 := rm_46 hm h1.2
  refine ev_istore d_LW_law_650 (by decide) ?_
  dsimp only [List.set_cons_zero, List.set_cons_succ]
  refine ev_aload_n (i := 2) d_LW_law_652 rfl rfl ?_
  refine ev_aload_n (i := 0) d_LW_law_653 rfl rfl ?_
  refine ev_iload d_LW_law_654 rfl ?_
  refine ev_iconst (v := 1) d_LW_law_656 rfl ?_
  refine ev_iadd d_LW_law_657 ?_
  refine ev_sld d_LW_law_658 i1 ?_
  refine ev_aload_n (i := 0) d_LW_law_659 rfl rfl ?_
  refine ev_iload d_LW_law_660 rfl ?_
  refine ev_iconst (v := 2) d_LW_law_662 rfl ?_
  refine ev_iadd d_LW_law_663 ?_
  refine ev_sld d_LW_law_664 i2 ?_
  refine ev_aload_n (i := 0) d_LW_law_665 rfl rfl ?_
  refine ev_iload d_LW_law_666 rfl ?_
  refine ev_iconst (v := 3) d_LW_law_668 rfl ?_
  refine ev_iadd d_LW_law_669 ?_
  refine ev_sld d_LW_law_670 i3 ?_
  refine es_callvI lk_LW_law_671 d_LW_law_671 rfl (c_MD_tick hm1) rfl rfl ⟨⟨by decide, by decide⟩, hu.1, hu.2⟩ (Nat.le_of_ble_eq_true rfl) rfl hu (fun y σ2 h2 => ?_) (fun _ _ h => h.elim)
  obtain ⟨q1, q2, S2, q3, q4⟩ := law_ag h1.1 h2.1 h2.2
  refine ev_istore d_LW_law_674 (by decide) ?_
  dsimp only [List.set_cons_zero, List.set_cons_succ]
  refine ev_aload_n (i := 2) d_LW_law_676 rfl rfl ?_
  refine es_callvI lk_LW_law_677 d_LW_law_677 rfl c_MD_thrown rfl rfl ⟨⟨by decide, by decide⟩, hu.1, hu.2⟩ (Nat.le_of_ble_eq_true rfl) rfl hu (fun t3 σ3 h3 => ?_) (fun _ _ h => h.elim)
  obtain ⟨rfl, rfl⟩ := h3
  refine ev_iload d_LW_law_680 rfl ?_
  refine ev_icmp_eq d_LW_law_682 (fun _ => ?_) (fun h => absurd q1 h)
  refine ev_iload d_LW_law_687 rfl ?_
  refine ev_if_ne d_LW_law_689 (fun _ => ?_) (fun h0 => ?_)
  · refine ev_goto d_LW_law_704 ?_
    exact nx S2 σ3 _ _ q3 q4
  obtain ⟨q5, q6⟩ := q2 (by first | exact h0 | exact Decidable.not_not.mp h0)
  refine ev_aload_n (i := 3) d_LW_law_692 rfl rfl ?_
  refine ev_iconst (v := 0) d_LW_law_693 rfl ?_
  refine es_lald d_LW_law_694 rfl in_01 ?_
  rw [show σ3 64 (0 : Int32).toNatClampNeg = y from q5]
  refine ev_iload d_LW_law_695 rfl ?_
  refine ev_i2l d_LW_law_697 ?_
  refine ev_lcmp d_LW_law_698 ?_
  refine ev_if_eq d_LW_law_699 (fun _ => ?_) (fun h => absurd (lg_self _) h)
  refine ev_goto d_LW_law_704 ?_
  exact nx S2 σ3 _ _ q3 q4
theorem law_reached (hl : l.stackTraces = false) {S : sp_S} (hc : ci S σ) (hm : rm S σ) {i : Int32} {uc us : Nat} {a5 a6 : Option Value} (hu : uc + 1 ≤ 1102 ∧ us + 6 ≤ 22063) (i1 : vp_in (i + 1) G.2.2.2.1) (i2 : vp_in (i + 2) G.2.2.2.1) (i3 : vp_in (i + 3) G.2.2.2.1) (i4 : vp_in (i + 4) G.2.2.2.1) {R : Option Value → es_S → Prop} {T : Nat → es_S → Prop}
    (nx : ∀ (S2 : sp_S) (σ2 : es_S) (b5 b6 : Option Value), ci S2 σ2 → rm S2 σ2 → ez_Ev l G X_LW_law (uc + 1) (us + 6) 1318 [some (.ref 901), some (.ref 0), some (.ref 46), some (.ref 64), some (.int i), b5, b6] [] (es_H σ2) (es_Q R T)) : ez_Ev l G X_LW_law uc us 707 [some (.ref 901), some (.ref 0), some (.ref 46), some (.ref 64), some (.int i), a5, a6] [] (es_H σ) (es_Q R T) := by
  refine ev_aload_n (i := 1) d_LW_law_707 rfl rfl ?_
  refine ev_aload_n (i := 0) d_LW_law_708 rfl rfl ?_
  refine ev_iload d_LW_law_709 rfl ?_
  refine ev_iconst (v := 1) d_LW_law_711 rfl ?_
  refine ev_iadd d_LW_law_712 ?_
  refine ev_sld d_LW_law_713 i1 ?_
  refine ev_aload_n (i := 3) d_LW_law_714 rfl rfl ?_
  refine es_callsI lk_LW_law_715 d_LW_law_715 (c_LW_reached hl hc) rfl rfl ⟨⟨by decide, by decide⟩, hu.1, hu.2⟩ (Nat.le_of_ble_eq_true rfl) rfl hu (fun t σ1 h1 => ?_) (fun _ _ h => h.elim)
  have hm1 : rm S σ1 := rm_46 hm h1.2
  refine ev_istore d_LW_law_718 (by decide) ?_
  dsimp only [List.set_cons_zero, List.set_cons_succ]
  refine ev_aload_n (i := 2) d_LW_law_720 rfl rfl ?_
  refine ev_aload_n (i := 0) d_LW_law_721 rfl rfl ?_
  refine ev_iload d_LW_law_722 rfl ?_
  refine ev_iconst (v := 1) d_LW_law_724 rfl ?_
  refine ev_iadd d_LW_law_725 ?_
  refine ev_sld d_LW_law_726 i1 ?_
  refine es_callvI lk_LW_law_727 d_LW_law_727 rfl (c_MD_reached hm1) rfl rfl ⟨⟨by decide, by decide⟩, hu.1, hu.2⟩ (Nat.le_of_ble_eq_true rfl) rfl hu (fun y σ2 h2 => ?_) (fun _ _ h => h.elim)
  obtain ⟨q1, q2, S2, q3, q4⟩ := law_ag h1.1 h2.1 h2.2
  refine ev_istore d_LW_law_730 (by decide) ?_
  dsimp only [List.set_cons_zero, List.set_cons_succ]
  refine ev_aload_n (i := 2) d_LW_law_732 rfl rfl ?_
  refine es_callvI lk_LW_law_733 d_LW_law_733 rfl c_MD_thrown rfl rfl ⟨⟨by decide, by decide⟩, hu.1, hu.2⟩ (Nat.le_of_ble_eq_true rfl) rfl hu (fun t3 σ3 h3 => ?_) (fun _ _ h => h.elim)
  obtain ⟨rfl, rfl⟩ := h3
  refine ev_iload d_LW_law_736 rfl ?_
  refine ev_icmp_eq d_LW_law_738 (fun _ => ?_) (fun h => absurd q1 h)
  refine ev_iload d_LW_law_743 rfl ?_
  refine ev_if_ne d_LW_law_745 (fun _ => ?_) (fun h0 => ?_)
  · refine ev_goto d_LW_law_760 ?_
    exact nx S2 σ3 _ _ q3 q4
  obtain ⟨q5, q6⟩ := q2 (by first | exact h0 | exact Decidable.not_not.mp h0)
  refine ev_aload_n (i := 3) d_LW_law_748 rfl rfl ?_
  refine ev_iconst (v := 0) d_LW_law_749 rfl ?_
  refine es_lald d_LW_law_750 rfl in_01 ?_
  rw [show σ3 64 (0 : Int32).toNatClampNeg = y from q5]
  refine ev_iload d_LW_law_751 rfl ?_
  refine ev_i2l d_LW_law_753 ?_
  refine ev_lcmp d_LW_law_754 ?_
  refine ev_if_eq d_LW_law_755 (fun _ => ?_) (fun h => absurd (lg_self _) h)
  refine ev_goto d_LW_law_760 ?_
  exact nx S2 σ3 _ _ q3 q4
theorem law_state (hl : l.stackTraces = false) {S : sp_S} (hc : ci S σ) (hm : rm S σ) {i : Int32} {uc us : Nat} {a5 a6 : Option Value} (hu : uc + 1 ≤ 1102 ∧ us + 6 ≤ 22063) (i1 : vp_in (i + 1) G.2.2.2.1) (i2 : vp_in (i + 2) G.2.2.2.1) (i3 : vp_in (i + 3) G.2.2.2.1) (i4 : vp_in (i + 4) G.2.2.2.1) {R : Option Value → es_S → Prop} {T : Nat → es_S → Prop}
    (nx : ∀ (S2 : sp_S) (σ2 : es_S) (b5 b6 : Option Value), ci S2 σ2 → rm S2 σ2 → ez_Ev l G X_LW_law (uc + 1) (us + 6) 1318 [some (.ref 901), some (.ref 0), some (.ref 46), some (.ref 64), some (.int i), b5, b6] [] (es_H σ2) (es_Q R T)) : ez_Ev l G X_LW_law uc us 763 [some (.ref 901), some (.ref 0), some (.ref 46), some (.ref 64), some (.int i), a5, a6] [] (es_H σ) (es_Q R T) := by
  refine ev_aload_n (i := 1) d_LW_law_763 rfl rfl ?_
  refine ev_aload_n (i := 0) d_LW_law_764 rfl rfl ?_
  refine ev_iload d_LW_law_765 rfl ?_
  refine ev_iconst (v := 1) d_LW_law_767 rfl ?_
  refine ev_iadd d_LW_law_768 ?_
  refine ev_sld d_LW_law_769 i1 ?_
  refine ev_aload_n (i := 0) d_LW_law_770 rfl rfl ?_
  refine ev_iload d_LW_law_771 rfl ?_
  refine ev_iconst (v := 2) d_LW_law_773 rfl ?_
  refine ev_iadd d_LW_law_774 ?_
  refine ev_sld d_LW_law_775 i2 ?_
  refine ev_aload_n (i := 3) d_LW_law_776 rfl rfl ?_
  refine es_callsI lk_LW_law_777 d_LW_law_777 (c_LW_state hl hc) rfl rfl ⟨⟨by decide, by decide⟩, hu.1, hu.2⟩ (Nat.le_of_ble_eq_true rfl) rfl hu (fun t σ1 h1 => ?_) (fun _ _ h => h.elim)
  have hm1 : rm S σ1 := rm_46 hm h1.2
  refine ev_istore d_LW_law_780 (by decide) ?_
  dsimp only [List.set_cons_zero, List.set_cons_succ]
  refine ev_aload_n (i := 2) d_LW_law_782 rfl rfl ?_
  refine ev_aload_n (i := 0) d_LW_law_783 rfl rfl ?_
  refine ev_iload d_LW_law_784 rfl ?_
  refine ev_iconst (v := 1) d_LW_law_786 rfl ?_
  refine ev_iadd d_LW_law_787 ?_
  refine ev_sld d_LW_law_788 i1 ?_
  refine ev_aload_n (i := 0) d_LW_law_789 rfl rfl ?_
  refine ev_iload d_LW_law_790 rfl ?_
  refine ev_iconst (v := 2) d_LW_law_792 rfl ?_
  refine ev_iadd d_LW_law_793 ?_
  refine ev_sld d_LW_law_794 i2 ?_
  refine es_callvI lk_LW_law_795 d_LW_law_795 rfl (c_MD_state hm1) rfl rfl ⟨⟨by decide, by decide⟩, hu.1, hu.2⟩ (Nat.le_of_ble_eq_true rfl) rfl hu (fun y σ2 h2 => ?_) (fun _ _ h => h.elim)
  obtain ⟨q1, q2, S2, q3, q4⟩ := law_ag h1.1 h2.1 h2.2
  refine ev_istore d_LW_law_798 (by decide) ?_
  dsimp only [List.set_cons_zero, List.set_cons_succ]
  refine ev_aload_n (i := 2) d_LW_law_800 rfl rfl ?_
  refine es_callvI lk_LW_law_801 d_LW_law_801 rfl c_MD_thrown rfl rfl ⟨⟨by decide, by decide⟩, hu.1, hu.2⟩ (Nat.le_of_ble_eq_true rfl) rfl hu (fun t3 σ3 h3 => ?_) (fun _ _ h => h.elim)
  obtain ⟨rfl, rfl⟩ := h3
  refine ev_iload d_LW_law_804 rfl ?_
  refine ev_icmp_eq d_LW_law_806 (fun _ => ?_) (fun h => absurd q1 h)
  refine ev_iload d_LW_law_811 rfl ?_
  refine ev_if_ne d_LW_law_813 (fun _ => ?_) (fun h0 => ?_)
  · refine ev_goto d_LW_law_828 ?_
    exact nx S2 σ3 _ _ q3 q4
  obtain ⟨q5, q6⟩ := q2 (by first | exact h0 | exact Decidable.not_not.mp h0)
  refine ev_aload_n (i := 3) d_LW_law_816 rfl rfl ?_
  refine ev_iconst (v := 0) d_LW_law_817 rfl ?_
  refine es_lald d_LW_law_818 rfl in_01 ?_
  rw [show σ3 64 (0 : Int32).toNatClampNeg = y from q5]
  refine ev_iload d_LW_law_819 rfl ?_
  refine ev_i2l d_LW_law_821 ?_
  refine ev_lcmp d_LW_law_822 ?_
  refine ev_if_eq d_LW_law_823 (fun _ => ?_) (fun h => absurd (lg_self _) h)
  refine ev_goto d_LW_law_828 ?_
  exact nx S2 σ3 _ _ q3 q4
theorem law_least (hl : l.stackTraces = false) {S : sp_S} (hc : ci S σ) (hm : rm S σ) {i : Int32} {uc us : Nat} {a5 a6 : Option Value} (hu : uc + 1 ≤ 1102 ∧ us + 6 ≤ 22063) (i1 : vp_in (i + 1) G.2.2.2.1) (i2 : vp_in (i + 2) G.2.2.2.1) (i3 : vp_in (i + 3) G.2.2.2.1) (i4 : vp_in (i + 4) G.2.2.2.1) {R : Option Value → es_S → Prop} {T : Nat → es_S → Prop}
    (nx : ∀ (S2 : sp_S) (σ2 : es_S) (b5 b6 : Option Value), ci S2 σ2 → rm S2 σ2 → ez_Ev l G X_LW_law (uc + 1) (us + 6) 1318 [some (.ref 901), some (.ref 0), some (.ref 46), some (.ref 64), some (.int i), b5, b6] [] (es_H σ2) (es_Q R T)) : ez_Ev l G X_LW_law uc us 831 [some (.ref 901), some (.ref 0), some (.ref 46), some (.ref 64), some (.int i), a5, a6] [] (es_H σ) (es_Q R T) := by
  refine ev_aload_n (i := 1) d_LW_law_831 rfl rfl ?_
  refine ev_aload_n (i := 0) d_LW_law_832 rfl rfl ?_
  refine ev_iload d_LW_law_833 rfl ?_
  refine ev_iconst (v := 1) d_LW_law_835 rfl ?_
  refine ev_iadd d_LW_law_836 ?_
  refine ev_sld d_LW_law_837 i1 ?_
  refine ev_aload_n (i := 3) d_LW_law_838 rfl rfl ?_
  refine es_callsI lk_LW_law_839 d_LW_law_839 (c_LW_least hl hc) rfl rfl ⟨⟨by decide, by decide⟩, hu.1, hu.2⟩ (Nat.le_of_ble_eq_true rfl) rfl hu (fun t σ1 h1 => ?_) (fun _ _ h => h.elim)
  have hm1 : rm S σ1 := rm_46 hm h1.2
  refine ev_istore d_LW_law_842 (by decide) ?_
  dsimp only [List.set_cons_zero, List.set_cons_succ]
  refine ev_aload_n (i := 2) d_LW_law_844 rfl rfl ?_
  refine ev_aload_n (i := 0) d_LW_law_845 rfl rfl ?_
  refine ev_iload d_LW_law_846 rfl ?_
  refine ev_iconst (v := 1) d_LW_law_848 rfl ?_
  refine ev_iadd d_LW_law_849 ?_
  refine ev_sld d_LW_law_850 i1 ?_
  refine es_callvI lk_LW_law_851 d_LW_law_851 rfl (c_MD_least hm1) rfl rfl ⟨⟨by decide, by decide⟩, hu.1, hu.2⟩ (Nat.le_of_ble_eq_true rfl) rfl hu (fun y σ2 h2 => ?_) (fun _ _ h => h.elim)
  obtain ⟨q1, q2, S2, q3, q4⟩ := law_ag h1.1 h2.1 h2.2
  refine ev_istore d_LW_law_854 (by decide) ?_
  dsimp only [List.set_cons_zero, List.set_cons_succ]
  refine ev_aload_n (i := 2) d_LW_law_856 rfl rfl ?_
  refine es_callvI lk_LW_law_857 d_LW_law_857 rfl c_MD_thrown rfl rfl ⟨⟨by decide, by decide⟩, hu.1, hu.2⟩ (Nat.le_of_ble_eq_true rfl) rfl hu (fun t3 σ3 h3 => ?_) (fun _ _ h => h.elim)
  obtain ⟨rfl, rfl⟩ := h3
  refine ev_iload d_LW_law_860 rfl ?_
  refine ev_icmp_eq d_LW_law_862 (fun _ => ?_) (fun h => absurd q1 h)
  refine ev_iload d_LW_law_867 rfl ?_
  refine ev_if_ne d_LW_law_869 (fun _ => ?_) (fun h0 => ?_)
  · refine ev_goto d_LW_law_884 ?_
    exact nx S2 σ3 _ _ q3 q4
  obtain ⟨q5, q6⟩ := q2 (by first | exact h0 | exact Decidable.not_not.mp h0)
  refine ev_aload_n (i := 3) d_LW_law_872 rfl rfl ?_
  refine ev_iconst (v := 0) d_LW_law_873 rfl ?_
  refine es_lald d_LW_law_874 rfl in_01 ?_
  rw [show σ3 64 (0 : Int32).toNatClampNeg = y from q5]
  refine ev_iload d_LW_law_875 rfl ?_
  refine ev_i2l d_LW_law_877 ?_
  refine ev_lcmp d_LW_law_878 ?_
  refine ev_if_eq d_LW_law_879 (fun _ => ?_) (fun h => absurd (lg_self _) h)
  refine ev_goto d_LW_law_884 ?_
  exact nx S2 σ3 _ _ q3 q4
theorem law_compare (hl : l.stackTraces = false) {S : sp_S} (hc : ci S σ) (hm : rm S σ) {i : Int32} {uc us : Nat} {a5 a6 : Option Value} (hu : uc + 1 ≤ 1102 ∧ us + 6 ≤ 22063) (i1 : vp_in (i + 1) G.2.2.2.1) (i2 : vp_in (i + 2) G.2.2.2.1) (i3 : vp_in (i + 3) G.2.2.2.1) (i4 : vp_in (i + 4) G.2.2.2.1) {R : Option Value → es_S → Prop} {T : Nat → es_S → Prop}
    (nx : ∀ (S2 : sp_S) (σ2 : es_S) (b5 b6 : Option Value), ci S2 σ2 → rm S2 σ2 → ez_Ev l G X_LW_law (uc + 1) (us + 6) 1318 [some (.ref 901), some (.ref 0), some (.ref 46), some (.ref 64), some (.int i), b5, b6] [] (es_H σ2) (es_Q R T)) : ez_Ev l G X_LW_law uc us 887 [some (.ref 901), some (.ref 0), some (.ref 46), some (.ref 64), some (.int i), a5, a6] [] (es_H σ) (es_Q R T) := by
  refine ev_aload_n (i := 1) d_LW_law_887 rfl rfl ?_
  refine ev_aload_n (i := 3) d_LW_law_888 rfl rfl ?_
  refine es_callsI lk_LW_law_889 d_LW_law_889 (c_LW_compare hl hc) rfl rfl ⟨⟨by decide, by decide⟩, hu.1, hu.2⟩ (Nat.le_of_ble_eq_true rfl) rfl hu (fun t σ1 h1 => ?_) (fun _ _ h => h.elim)
  have hm1 : rm S σ1 := rm_46 hm h1.2
  refine ev_istore d_LW_law_892 (by decide) ?_
  dsimp only [List.set_cons_zero, List.set_cons_succ]
  refine ev_aload_n (i := 2) d_LW_law_894 rfl rfl ?_
  refine es_callvI lk_LW_law_895 d_LW_law_895 rfl (c_MD_compare hm1) rfl rfl ⟨⟨by decide, by decide⟩, hu.1, hu.2⟩ (Nat.le_of_ble_eq_true rfl) rfl hu (fun y σ2 h2 => ?_) (fun _ _ h => h.elim)
  obtain ⟨q1, q2, S2, q3, q4⟩ := law_ag h1.1 h2.1 h2.2
  refine ev_istore d_LW_law_898 (by decide) ?_
  dsimp only [List.set_cons_zero, List.set_cons_succ]
  refine ev_aload_n (i := 2) d_LW_law_900 rfl rfl ?_
  refine es_callvI lk_LW_law_901 d_LW_law_901 rfl c_MD_thrown rfl rfl ⟨⟨by decide, by decide⟩, hu.1, hu.2⟩ (Nat.le_of_ble_eq_true rfl) rfl hu (fun t3 σ3 h3 => ?_) (fun _ _ h => h.elim)
  obtain ⟨rfl, rfl⟩ := h3
  refine ev_iload d_LW_law_904 rfl ?_
  refine ev_icmp_eq d_LW_law_906 (fun _ => ?_) (fun h => absurd q1 h)
  refine ev_iload d_LW_law_911 rfl ?_
  refine ev_if_ne d_LW_law_913 (fun _ => ?_) (fun h0 => ?_)
  · refine ev_goto d_LW_law_928 ?_
    exact nx S2 σ3 _ _ q3 q4
  obtain ⟨q5, q6⟩ := q2 (by first | exact h0 | exact Decidable.not_not.mp h0)
  refine ev_aload_n (i := 3) d_LW_law_916 rfl rfl ?_
  refine ev_iconst (v := 0) d_LW_law_917 rfl ?_
  refine es_lald d_LW_law_918 rfl in_01 ?_
  rw [show σ3 64 (0 : Int32).toNatClampNeg = y from q5]
  refine ev_iload d_LW_law_919 rfl ?_
  refine ev_i2l d_LW_law_921 ?_
  refine ev_lcmp d_LW_law_922 ?_
  refine ev_if_eq d_LW_law_923 (fun _ => ?_) (fun h => absurd (lg_self _) h)
  refine ev_goto d_LW_law_928 ?_
  exact nx S2 σ3 _ _ q3 q4
theorem law_shown (hl : l.stackTraces = false) {S : sp_S} (hc : ci S σ) (hm : rm S σ) {i : Int32} {uc us : Nat} {a5 a6 : Option Value} (hu : uc + 1 ≤ 1102 ∧ us + 6 ≤ 22063) (i1 : vp_in (i + 1) G.2.2.2.1) (i2 : vp_in (i + 2) G.2.2.2.1) (i3 : vp_in (i + 3) G.2.2.2.1) (i4 : vp_in (i + 4) G.2.2.2.1) {R : Option Value → es_S → Prop} {T : Nat → es_S → Prop}
    (nx : ∀ (S2 : sp_S) (σ2 : es_S) (b5 b6 : Option Value), ci S2 σ2 → rm S2 σ2 → ez_Ev l G X_LW_law (uc + 1) (us + 6) 1318 [some (.ref 901), some (.ref 0), some (.ref 46), some (.ref 64), some (.int i), b5, b6] [] (es_H σ2) (es_Q R T)) : ez_Ev l G X_LW_law uc us 931 [some (.ref 901), some (.ref 0), some (.ref 46), some (.ref 64), some (.int i), a5, a6] [] (es_H σ) (es_Q R T) := by
  refine ev_aload_n (i := 1) d_LW_law_931 rfl rfl ?_
  refine ev_aload_n (i := 0) d_LW_law_932 rfl rfl ?_
  refine ev_iload d_LW_law_933 rfl ?_
  refine ev_iconst (v := 1) d_LW_law_935 rfl ?_
  refine ev_iadd d_LW_law_936 ?_
  refine ev_sld d_LW_law_937 i1 ?_
  refine ev_aload_n (i := 3) d_LW_law_938 rfl rfl ?_
  refine es_callsI lk_LW_law_939 d_LW_law_939 (c_LW_shown hl hc) rfl rfl ⟨⟨by decide, by decide⟩, hu.1, hu.2⟩ (Nat.le_of_ble_eq_true rfl) rfl hu (fun t σ1 h1 => ?_) (fun _ _ h => h.elim)
  have hm1 : rm S σ1 := rm_46 hm h1.2
  refine ev_istore d_LW_law_942 (by decide) ?_
  dsimp only [List.set_cons_zero, List.set_cons_succ]
  refine ev_aload_n (i := 2) d_LW_law_944 rfl rfl ?_
  refine ev_aload_n (i := 0) d_LW_law_945 rfl rfl ?_
  refine ev_iload d_LW_law_946 rfl ?_
  refine ev_iconst (v := 1) d_LW_law_948 rfl ?_
  refine ev_iadd d_LW_law_949 ?_
  refine ev_sld d_LW_law_950 i1 ?_
  refine es_callvI lk_LW_law_951 d_LW_law_951 rfl (c_MD_shown hm1) rfl rfl ⟨⟨by decide, by decide⟩, hu.1, hu.2⟩ (Nat.le_of_ble_eq_true rfl) rfl hu (fun y σ2 h2 => ?_) (fun _ _ h => h.elim)
  obtain ⟨q1, q2, S2, q3, q4⟩ := law_ag h1.1 h2.1 h2.2
  refine ev_istore d_LW_law_954 (by decide) ?_
  dsimp only [List.set_cons_zero, List.set_cons_succ]
  refine ev_aload_n (i := 2) d_LW_law_956 rfl rfl ?_
  refine es_callvI lk_LW_law_957 d_LW_law_957 rfl c_MD_thrown rfl rfl ⟨⟨by decide, by decide⟩, hu.1, hu.2⟩ (Nat.le_of_ble_eq_true rfl) rfl hu (fun t3 σ3 h3 => ?_) (fun _ _ h => h.elim)
  obtain ⟨rfl, rfl⟩ := h3
  refine ev_iload d_LW_law_960 rfl ?_
  refine ev_icmp_eq d_LW_law_962 (fun _ => ?_) (fun h => absurd q1 h)
  refine ev_iload d_LW_law_967 rfl ?_
  refine ev_if_ne d_LW_law_969 (fun _ => ?_) (fun h0 => ?_)
  · refine ev_goto d_LW_law_984 ?_
    exact nx S2 σ3 _ _ q3 q4
  obtain ⟨q5, q6⟩ := q2 (by first | exact h0 | exact Decidable.not_not.mp h0)
  refine ev_aload_n (i := 3) d_LW_law_972 rfl rfl ?_
  refine ev_iconst (v := 0) d_LW_law_973 rfl ?_
  refine es_lald d_LW_law_974 rfl in_01 ?_
  rw [show σ3 64 (0 : Int32).toNatClampNeg = y from q5]
  refine ev_iload d_LW_law_975 rfl ?_
  refine ev_i2l d_LW_law_977 ?_
  refine ev_lcmp d_LW_law_978 ?_
  refine ev_if_eq d_LW_law_979 (fun _ => ?_) (fun h => absurd (lg_self _) h)
  refine ev_goto d_LW_law_984 ?_
  exact nx S2 σ3 _ _ q3 q4
theorem law_last (hl : l.stackTraces = false) {S : sp_S} (hc : ci S σ) (hm : rm S σ) {i : Int32} {uc us : Nat} {a5 a6 : Option Value} (hu : uc + 1 ≤ 1102 ∧ us + 6 ≤ 22063) (i1 : vp_in (i + 1) G.2.2.2.1) (i2 : vp_in (i + 2) G.2.2.2.1) (i3 : vp_in (i + 3) G.2.2.2.1) (i4 : vp_in (i + 4) G.2.2.2.1) {R : Option Value → es_S → Prop} {T : Nat → es_S → Prop}
    (nx : ∀ (S2 : sp_S) (σ2 : es_S) (b5 b6 : Option Value), ci S2 σ2 → rm S2 σ2 → ez_Ev l G X_LW_law (uc + 1) (us + 6) 1318 [some (.ref 901), some (.ref 0), some (.ref 46), some (.ref 64), some (.int i), b5, b6] [] (es_H σ2) (es_Q R T)) : ez_Ev l G X_LW_law uc us 987 [some (.ref 901), some (.ref 0), some (.ref 46), some (.ref 64), some (.int i), a5, a6] [] (es_H σ) (es_Q R T) := by
  refine ev_aload_n (i := 1) d_LW_law_987 rfl rfl ?_
  refine ev_aload_n (i := 0) d_LW_law_988 rfl rfl ?_
  refine ev_iload d_LW_law_989 rfl ?_
  refine ev_iconst (v := 1) d_LW_law_991 rfl ?_
  refine ev_iadd d_LW_law_992 ?_
  refine ev_sld d_LW_law_993 i1 ?_
  refine ev_aload_n (i := 3) d_LW_law_994 rfl rfl ?_
  refine es_callsI lk_LW_law_995 d_LW_law_995 (c_LW_last hl hc) rfl rfl ⟨⟨by decide, by decide⟩, hu.1, hu.2⟩ (Nat.le_of_ble_eq_true rfl) rfl hu (fun t σ1 h1 => ?_) (fun _ _ h => h.elim)
  have hm1 : rm S σ1 := rm_46 hm h1.2
  refine ev_istore d_LW_law_998 (by decide) ?_
  dsimp only [List.set_cons_zero, List.set_cons_succ]
  refine ev_aload_n (i := 2) d_LW_law_1000 rfl rfl ?_
  refine ev_aload_n (i := 0) d_LW_law_1001 rfl rfl ?_
  refine ev_iload d_LW_law_1002 rfl ?_
  refine ev_iconst (v := 1) d_LW_law_1004 rfl ?_
  refine ev_iadd d_LW_law_1005 ?_
  refine ev_sld d_LW_law_1006 i1 ?_
  refine es_callvI lk_LW_law_1007 d_LW_law_1007 rfl (c_MD_last hm1) rfl rfl ⟨⟨by decide, by decide⟩, hu.1, hu.2⟩ (Nat.le_of_ble_eq_true rfl) rfl hu (fun y σ2 h2 => ?_) (fun _ _ h => h.elim)
  obtain ⟨q1, q2, S2, q3, q4⟩ := law_ag h1.1 h2.1 h2.2
  refine ev_istore d_LW_law_1010 (by decide) ?_
  dsimp only [List.set_cons_zero, List.set_cons_succ]
  refine ev_aload_n (i := 2) d_LW_law_1012 rfl rfl ?_
  refine es_callvI lk_LW_law_1013 d_LW_law_1013 rfl c_MD_thrown rfl rfl ⟨⟨by decide, by decide⟩, hu.1, hu.2⟩ (Nat.le_of_ble_eq_true rfl) rfl hu (fun t3 σ3 h3 => ?_) (fun _ _ h => h.elim)
  obtain ⟨rfl, rfl⟩ := h3
  refine ev_iload d_LW_law_1016 rfl ?_
  refine ev_icmp_eq d_LW_law_1018 (fun _ => ?_) (fun h => absurd q1 h)
  refine ev_iload d_LW_law_1023 rfl ?_
  refine ev_if_ne d_LW_law_1025 (fun _ => ?_) (fun h0 => ?_)
  · refine ev_goto d_LW_law_1040 ?_
    exact nx S2 σ3 _ _ q3 q4
  obtain ⟨q5, q6⟩ := q2 (by first | exact h0 | exact Decidable.not_not.mp h0)
  refine ev_aload_n (i := 3) d_LW_law_1028 rfl rfl ?_
  refine ev_iconst (v := 0) d_LW_law_1029 rfl ?_
  refine es_lald d_LW_law_1030 rfl in_01 ?_
  rw [show σ3 64 (0 : Int32).toNatClampNeg = y from q5]
  refine ev_iload d_LW_law_1031 rfl ?_
  refine ev_i2l d_LW_law_1033 ?_
  refine ev_lcmp d_LW_law_1034 ?_
  refine ev_if_eq d_LW_law_1035 (fun _ => ?_) (fun h => absurd (lg_self _) h)
  refine ev_goto d_LW_law_1040 ?_
  exact nx S2 σ3 _ _ q3 q4
theorem law_pairs (hl : l.stackTraces = false) {S : sp_S} (hc : ci S σ) (hm : rm S σ) {i : Int32} {uc us : Nat} {a5 a6 : Option Value} (hu : uc + 1 ≤ 1102 ∧ us + 6 ≤ 22063) (i1 : vp_in (i + 1) G.2.2.2.1) (i2 : vp_in (i + 2) G.2.2.2.1) (i3 : vp_in (i + 3) G.2.2.2.1) (i4 : vp_in (i + 4) G.2.2.2.1) {R : Option Value → es_S → Prop} {T : Nat → es_S → Prop}
    (nx : ∀ (S2 : sp_S) (σ2 : es_S) (b5 b6 : Option Value), ci S2 σ2 → rm S2 σ2 → ez_Ev l G X_LW_law (uc + 1) (us + 6) 1318 [some (.ref 901), some (.ref 0), some (.ref 46), some (.ref 64), some (.int i), b5, b6] [] (es_H σ2) (es_Q R T)) : ez_Ev l G X_LW_law uc us 1043 [some (.ref 901), some (.ref 0), some (.ref 46), some (.ref 64), some (.int i), a5, a6] [] (es_H σ) (es_Q R T) := by
  refine ev_aload_n (i := 1) d_LW_law_1043 rfl rfl ?_
  refine ev_aload_n (i := 3) d_LW_law_1044 rfl rfl ?_
  refine es_callsI lk_LW_law_1045 d_LW_law_1045 (c_LW_pairs hl hc) rfl rfl ⟨⟨by decide, by decide⟩, hu.1, hu.2⟩ (Nat.le_of_ble_eq_true rfl) rfl hu (fun t σ1 h1 => ?_) (fun _ _ h => h.elim)
  have hm1 : rm S σ1 := rm_46 hm h1.2
  refine ev_istore d_LW_law_1048 (by decide) ?_
  dsimp only [List.set_cons_zero, List.set_cons_succ]
  refine ev_aload_n (i := 2) d_LW_law_1050 rfl rfl ?_
  refine es_callvI lk_LW_law_1051 d_LW_law_1051 rfl (c_MD_pairs hm1) rfl rfl ⟨⟨by decide, by decide⟩, hu.1, hu.2⟩ (Nat.le_of_ble_eq_true rfl) rfl hu (fun y σ2 h2 => ?_) (fun _ _ h => h.elim)
  obtain ⟨q1, q2, S2, q3, q4⟩ := law_ag h1.1 h2.1 h2.2
  refine ev_istore d_LW_law_1054 (by decide) ?_
  dsimp only [List.set_cons_zero, List.set_cons_succ]
  refine ev_aload_n (i := 2) d_LW_law_1056 rfl rfl ?_
  refine es_callvI lk_LW_law_1057 d_LW_law_1057 rfl c_MD_thrown rfl rfl ⟨⟨by decide, by decide⟩, hu.1, hu.2⟩ (Nat.le_of_ble_eq_true rfl) rfl hu (fun t3 σ3 h3 => ?_) (fun _ _ h => h.elim)
  obtain ⟨rfl, rfl⟩ := h3
  refine ev_iload d_LW_law_1060 rfl ?_
  refine ev_icmp_eq d_LW_law_1062 (fun _ => ?_) (fun h => absurd q1 h)
  refine ev_iload d_LW_law_1067 rfl ?_
  refine ev_if_ne d_LW_law_1069 (fun _ => ?_) (fun h0 => ?_)
  · refine ev_goto d_LW_law_1084 ?_
    exact nx S2 σ3 _ _ q3 q4
  obtain ⟨q5, q6⟩ := q2 (by first | exact h0 | exact Decidable.not_not.mp h0)
  refine ev_aload_n (i := 3) d_LW_law_1072 rfl rfl ?_
  refine ev_iconst (v := 0) d_LW_law_1073 rfl ?_
  refine es_lald d_LW_law_1074 rfl in_01 ?_
  rw [show σ3 64 (0 : Int32).toNatClampNeg = y from q5]
  refine ev_iload d_LW_law_1075 rfl ?_
  refine ev_i2l d_LW_law_1077 ?_
  refine ev_lcmp d_LW_law_1078 ?_
  refine ev_if_eq d_LW_law_1079 (fun _ => ?_) (fun h => absurd (lg_self _) h)
  refine ev_goto d_LW_law_1084 ?_
  exact nx S2 σ3 _ _ q3 q4
theorem law_same (hl : l.stackTraces = false) {S : sp_S} (hc : ci S σ) (hm : rm S σ) {i : Int32} {uc us : Nat} {a5 a6 : Option Value} (hu : uc + 1 ≤ 1102 ∧ us + 6 ≤ 22063) (i1 : vp_in (i + 1) G.2.2.2.1) (i2 : vp_in (i + 2) G.2.2.2.1) (i3 : vp_in (i + 3) G.2.2.2.1) (i4 : vp_in (i + 4) G.2.2.2.1) {R : Option Value → es_S → Prop} {T : Nat → es_S → Prop}
    (nx : ∀ (S2 : sp_S) (σ2 : es_S) (b5 b6 : Option Value), ci S2 σ2 → rm S2 σ2 → ez_Ev l G X_LW_law (uc + 1) (us + 6) 1318 [some (.ref 901), some (.ref 0), some (.ref 46), some (.ref 64), some (.int i), b5, b6] [] (es_H σ2) (es_Q R T)) : ez_Ev l G X_LW_law uc us 1087 [some (.ref 901), some (.ref 0), some (.ref 46), some (.ref 64), some (.int i), a5, a6] [] (es_H σ) (es_Q R T) := by
  refine ev_aload_n (i := 1) d_LW_law_1087 rfl rfl ?_
  refine ev_aload_n (i := 3) d_LW_law_1088 rfl rfl ?_
  refine es_callsI lk_LW_law_1089 d_LW_law_1089 (c_LW_same hl hc) rfl rfl ⟨⟨by decide, by decide⟩, hu.1, hu.2⟩ (Nat.le_of_ble_eq_true rfl) rfl hu (fun t σ1 h1 => ?_) (fun _ _ h => h.elim)
  have hm1 : rm S σ1 := rm_46 hm h1.2
  refine ev_istore d_LW_law_1092 (by decide) ?_
  dsimp only [List.set_cons_zero, List.set_cons_succ]
  refine ev_aload_n (i := 2) d_LW_law_1094 rfl rfl ?_
  refine es_callvI lk_LW_law_1095 d_LW_law_1095 rfl (c_MD_same hm1) rfl rfl ⟨⟨by decide, by decide⟩, hu.1, hu.2⟩ (Nat.le_of_ble_eq_true rfl) rfl hu (fun y σ2 h2 => ?_) (fun _ _ h => h.elim)
  obtain ⟨q1, q2, S2, q3, q4⟩ := law_ag h1.1 h2.1 h2.2
  refine ev_istore d_LW_law_1098 (by decide) ?_
  dsimp only [List.set_cons_zero, List.set_cons_succ]
  refine ev_aload_n (i := 2) d_LW_law_1100 rfl rfl ?_
  refine es_callvI lk_LW_law_1101 d_LW_law_1101 rfl c_MD_thrown rfl rfl ⟨⟨by decide, by decide⟩, hu.1, hu.2⟩ (Nat.le_of_ble_eq_true rfl) rfl hu (fun t3 σ3 h3 => ?_) (fun _ _ h => h.elim)
  obtain ⟨rfl, rfl⟩ := h3
  refine ev_iload d_LW_law_1104 rfl ?_
  refine ev_icmp_eq d_LW_law_1106 (fun _ => ?_) (fun h => absurd q1 h)
  refine ev_iload d_LW_law_1111 rfl ?_
  refine ev_if_ne d_LW_law_1113 (fun _ => ?_) (fun h0 => ?_)
  · refine ev_goto d_LW_law_1135 ?_
    exact nx S2 σ3 _ _ q3 q4
  obtain ⟨q5, q6⟩ := q2 (by first | exact h0 | exact Decidable.not_not.mp h0)
  refine ev_aload_n (i := 3) d_LW_law_1116 rfl rfl ?_
  refine ev_iconst (v := 0) d_LW_law_1117 rfl ?_
  refine es_lald d_LW_law_1118 rfl in_01 ?_
  rw [show σ3 64 (0 : Int32).toNatClampNeg = y from q5]
  refine ev_iload d_LW_law_1119 rfl ?_
  refine ev_if_eq d_LW_law_1121 (fun hy => ?_) (fun hy => ?_)
  · rw [hy]
    refine ev_lconst (v := (0 : Int32).toInt64) d_LW_law_1128 (by decide) ?_
    refine ev_lcmp d_LW_law_1129 ?_
    refine ev_if_eq d_LW_law_1130 (fun _ => ?_) (fun h => absurd (lg_self _) h)
    refine ev_goto d_LW_law_1135 ?_
    exact nx S2 σ3 _ _ q3 q4
  · rw [show y = 1 from by rw [q6]; rw [q6] at hy; exact (eb_1 hy).symm]
    refine ev_lconst (v := (1 : Int32).toInt64) d_LW_law_1124 (by decide) ?_
    refine ev_goto d_LW_law_1125 ?_
    refine ev_lcmp d_LW_law_1129 ?_
    refine ev_if_eq d_LW_law_1130 (fun _ => ?_) (fun h => absurd (lg_self _) h)
    refine ev_goto d_LW_law_1135 ?_
    exact nx S2 σ3 _ _ q3 q4
theorem law_matched (hl : l.stackTraces = false) {S : sp_S} (hc : ci S σ) (hm : rm S σ) {i : Int32} {uc us : Nat} {a5 a6 : Option Value} (hu : uc + 1 ≤ 1102 ∧ us + 6 ≤ 22063) (i1 : vp_in (i + 1) G.2.2.2.1) (i2 : vp_in (i + 2) G.2.2.2.1) (i3 : vp_in (i + 3) G.2.2.2.1) (i4 : vp_in (i + 4) G.2.2.2.1) {R : Option Value → es_S → Prop} {T : Nat → es_S → Prop}
    (nx : ∀ (S2 : sp_S) (σ2 : es_S) (b5 b6 : Option Value), ci S2 σ2 → rm S2 σ2 → ez_Ev l G X_LW_law (uc + 1) (us + 6) 1318 [some (.ref 901), some (.ref 0), some (.ref 46), some (.ref 64), some (.int i), b5, b6] [] (es_H σ2) (es_Q R T)) : ez_Ev l G X_LW_law uc us 1138 [some (.ref 901), some (.ref 0), some (.ref 46), some (.ref 64), some (.int i), a5, a6] [] (es_H σ) (es_Q R T) := by
  refine ev_aload_n (i := 1) d_LW_law_1138 rfl rfl ?_
  refine ev_aload_n (i := 0) d_LW_law_1139 rfl rfl ?_
  refine ev_iload d_LW_law_1140 rfl ?_
  refine ev_iconst (v := 1) d_LW_law_1142 rfl ?_
  refine ev_iadd d_LW_law_1143 ?_
  refine ev_sld d_LW_law_1144 i1 ?_
  refine ev_aload_n (i := 3) d_LW_law_1145 rfl rfl ?_
  refine es_callsI lk_LW_law_1146 d_LW_law_1146 (c_LW_matched hl hc) rfl rfl ⟨⟨by decide, by decide⟩, hu.1, hu.2⟩ (Nat.le_of_ble_eq_true rfl) rfl hu (fun t σ1 h1 => ?_) (fun _ _ h => h.elim)
  have hm1 : rm S σ1 := rm_46 hm h1.2
  refine ev_istore d_LW_law_1149 (by decide) ?_
  dsimp only [List.set_cons_zero, List.set_cons_succ]
  refine ev_aload_n (i := 2) d_LW_law_1151 rfl rfl ?_
  refine ev_aload_n (i := 0) d_LW_law_1152 rfl rfl ?_
  refine ev_iload d_LW_law_1153 rfl ?_
  refine ev_iconst (v := 1) d_LW_law_1155 rfl ?_
  refine ev_iadd d_LW_law_1156 ?_
  refine ev_sld d_LW_law_1157 i1 ?_
  refine es_callvI lk_LW_law_1158 d_LW_law_1158 rfl (c_MD_matched hm1) rfl rfl ⟨⟨by decide, by decide⟩, hu.1, hu.2⟩ (Nat.le_of_ble_eq_true rfl) rfl hu (fun y σ2 h2 => ?_) (fun _ _ h => h.elim)
  obtain ⟨q1, q2, S2, q3, q4⟩ := law_ag h1.1 h2.1 h2.2
  refine ev_istore d_LW_law_1161 (by decide) ?_
  dsimp only [List.set_cons_zero, List.set_cons_succ]
  refine ev_aload_n (i := 2) d_LW_law_1163 rfl rfl ?_
  refine es_callvI lk_LW_law_1164 d_LW_law_1164 rfl c_MD_thrown rfl rfl ⟨⟨by decide, by decide⟩, hu.1, hu.2⟩ (Nat.le_of_ble_eq_true rfl) rfl hu (fun t3 σ3 h3 => ?_) (fun _ _ h => h.elim)
  obtain ⟨rfl, rfl⟩ := h3
  refine ev_iload d_LW_law_1167 rfl ?_
  refine ev_icmp_eq d_LW_law_1169 (fun _ => ?_) (fun h => absurd q1 h)
  refine ev_iload d_LW_law_1174 rfl ?_
  refine ev_if_ne d_LW_law_1176 (fun _ => ?_) (fun h0 => ?_)
  · refine ev_goto d_LW_law_1191 ?_
    exact nx S2 σ3 _ _ q3 q4
  obtain ⟨q5, q6⟩ := q2 (by first | exact h0 | exact Decidable.not_not.mp h0)
  refine ev_aload_n (i := 3) d_LW_law_1179 rfl rfl ?_
  refine ev_iconst (v := 0) d_LW_law_1180 rfl ?_
  refine es_lald d_LW_law_1181 rfl in_01 ?_
  rw [show σ3 64 (0 : Int32).toNatClampNeg = y from q5]
  refine ev_iload d_LW_law_1182 rfl ?_
  refine ev_i2l d_LW_law_1184 ?_
  refine ev_lcmp d_LW_law_1185 ?_
  refine ev_if_eq d_LW_law_1186 (fun _ => ?_) (fun h => absurd (lg_self _) h)
  refine ev_goto d_LW_law_1191 ?_
  exact nx S2 σ3 _ _ q3 q4
theorem law_idle (hl : l.stackTraces = false) {S : sp_S} (hc : ci S σ) (hm : rm S σ) {i : Int32} {uc us : Nat} {a5 a6 : Option Value} (hu : uc + 1 ≤ 1102 ∧ us + 6 ≤ 22063) (i1 : vp_in (i + 1) G.2.2.2.1) (i2 : vp_in (i + 2) G.2.2.2.1) (i3 : vp_in (i + 3) G.2.2.2.1) (i4 : vp_in (i + 4) G.2.2.2.1) {R : Option Value → es_S → Prop} {T : Nat → es_S → Prop}
    (nx : ∀ (S2 : sp_S) (σ2 : es_S) (b5 b6 : Option Value), ci S2 σ2 → rm S2 σ2 → ez_Ev l G X_LW_law (uc + 1) (us + 6) 1318 [some (.ref 901), some (.ref 0), some (.ref 46), some (.ref 64), some (.int i), b5, b6] [] (es_H σ2) (es_Q R T)) : ez_Ev l G X_LW_law uc us 1194 [some (.ref 901), some (.ref 0), some (.ref 46), some (.ref 64), some (.int i), a5, a6] [] (es_H σ) (es_Q R T) := by
  refine ev_aload_n (i := 1) d_LW_law_1194 rfl rfl ?_
  refine ev_aload_n (i := 0) d_LW_law_1195 rfl rfl ?_
  refine ev_iload d_LW_law_1196 rfl ?_
  refine ev_iconst (v := 1) d_LW_law_1198 rfl ?_
  refine ev_iadd d_LW_law_1199 ?_
  refine ev_sld d_LW_law_1200 i1 ?_
  refine ev_aload_n (i := 0) d_LW_law_1201 rfl rfl ?_
  refine ev_iload d_LW_law_1202 rfl ?_
  refine ev_iconst (v := 2) d_LW_law_1204 rfl ?_
  refine ev_iadd d_LW_law_1205 ?_
  refine ev_sld d_LW_law_1206 i2 ?_
  refine ev_aload_n (i := 3) d_LW_law_1207 rfl rfl ?_
  refine es_callsI lk_LW_law_1208 d_LW_law_1208 (c_LW_idle hl hc) rfl rfl ⟨⟨by decide, by decide⟩, hu.1, hu.2⟩ (Nat.le_of_ble_eq_true rfl) rfl hu (fun t σ1 h1 => ?_) (fun _ _ h => h.elim)
  have hm1 : rm S σ1 := rm_46 hm h1.2
  refine ev_istore d_LW_law_1211 (by decide) ?_
  dsimp only [List.set_cons_zero, List.set_cons_succ]
  refine ev_aload_n (i := 2) d_LW_law_1213 rfl rfl ?_
  refine ev_aload_n (i := 0) d_LW_law_1214 rfl rfl ?_
  refine ev_iload d_LW_law_1215 rfl ?_
  refine ev_iconst (v := 1) d_LW_law_1217 rfl ?_
  refine ev_iadd d_LW_law_1218 ?_
  refine ev_sld d_LW_law_1219 i1 ?_
  refine ev_aload_n (i := 0) d_LW_law_1220 rfl rfl ?_
  refine ev_iload d_LW_law_1221 rfl ?_
  refine ev_iconst (v := 2) d_LW_law_1223 rfl ?_
  refine ev_iadd d_LW_law_1224 ?_
  refine ev_sld d_LW_law_1225 i2 ?_
  refine es_callvI lk_LW_law_1226 d_LW_law_1226 rfl (c_MD_idle hm1) rfl rfl ⟨⟨by decide, by decide⟩, hu.1, hu.2⟩ (Nat.le_of_ble_eq_true rfl) rfl hu (fun y σ2 h2 => ?_) (fun _ _ h => h.elim)
  obtain ⟨q1, q2, S2, q3, q4⟩ := law_ag h1.1 h2.1 h2.2
  refine ev_istore d_LW_law_1229 (by decide) ?_
  dsimp only [List.set_cons_zero, List.set_cons_succ]
  refine ev_aload_n (i := 2) d_LW_law_1231 rfl rfl ?_
  refine es_callvI lk_LW_law_1232 d_LW_law_1232 rfl c_MD_thrown rfl rfl ⟨⟨by decide, by decide⟩, hu.1, hu.2⟩ (Nat.le_of_ble_eq_true rfl) rfl hu (fun t3 σ3 h3 => ?_) (fun _ _ h => h.elim)
  obtain ⟨rfl, rfl⟩ := h3
  refine ev_iload d_LW_law_1235 rfl ?_
  refine ev_icmp_eq d_LW_law_1237 (fun _ => ?_) (fun h => absurd q1 h)
  refine ev_iload d_LW_law_1242 rfl ?_
  refine ev_if_ne d_LW_law_1244 (fun _ => ?_) (fun h0 => ?_)
  · refine ev_goto d_LW_law_1259 ?_
    exact nx S2 σ3 _ _ q3 q4
  obtain ⟨q5, q6⟩ := q2 (by first | exact h0 | exact Decidable.not_not.mp h0)
  refine ev_aload_n (i := 3) d_LW_law_1247 rfl rfl ?_
  refine ev_iconst (v := 0) d_LW_law_1248 rfl ?_
  refine es_lald d_LW_law_1249 rfl in_01 ?_
  rw [show σ3 64 (0 : Int32).toNatClampNeg = y from q5]
  refine ev_iload d_LW_law_1250 rfl ?_
  refine ev_i2l d_LW_law_1252 ?_
  refine ev_lcmp d_LW_law_1253 ?_
  refine ev_if_eq d_LW_law_1254 (fun _ => ?_) (fun h => absurd (lg_self _) h)
  refine ev_goto d_LW_law_1259 ?_
  exact nx S2 σ3 _ _ q3 q4
theorem law_blocks (hl : l.stackTraces = false) {S : sp_S} (hc : ci S σ) (hm : rm S σ) {i : Int32} {uc us : Nat} {a5 a6 : Option Value} (hu : uc + 1 ≤ 1102 ∧ us + 6 ≤ 22063) (i1 : vp_in (i + 1) G.2.2.2.1) (i2 : vp_in (i + 2) G.2.2.2.1) (i3 : vp_in (i + 3) G.2.2.2.1) (i4 : vp_in (i + 4) G.2.2.2.1) {R : Option Value → es_S → Prop} {T : Nat → es_S → Prop}
    (nx : ∀ (S2 : sp_S) (σ2 : es_S) (b5 b6 : Option Value), ci S2 σ2 → rm S2 σ2 → ez_Ev l G X_LW_law (uc + 1) (us + 6) 1318 [some (.ref 901), some (.ref 0), some (.ref 46), some (.ref 64), some (.int i), b5, b6] [] (es_H σ2) (es_Q R T)) : ez_Ev l G X_LW_law uc us 1262 [some (.ref 901), some (.ref 0), some (.ref 46), some (.ref 64), some (.int i), a5, a6] [] (es_H σ) (es_Q R T) := by
  refine ev_aload_n (i := 1) d_LW_law_1262 rfl rfl ?_
  refine ev_aload_n (i := 0) d_LW_law_1263 rfl rfl ?_
  refine ev_iload d_LW_law_1264 rfl ?_
  refine ev_iconst (v := 1) d_LW_law_1266 rfl ?_
  refine ev_iadd d_LW_law_1267 ?_
  refine ev_sld d_LW_law_1268 i1 ?_
  refine ev_aload_n (i := 3) d_LW_law_1269 rfl rfl ?_
  refine es_callsI lk_LW_law_1270 d_LW_law_1270 (c_LW_blocks hl hc) rfl rfl ⟨⟨by decide, by decide⟩, hu.1, hu.2⟩ (Nat.le_of_ble_eq_true rfl) rfl hu (fun t σ1 h1 => ?_) (fun _ _ h => h.elim)
  have hm1 : rm S σ1 := rm_46 hm h1.2
  refine ev_istore d_LW_law_1273 (by decide) ?_
  dsimp only [List.set_cons_zero, List.set_cons_succ]
  refine ev_aload_n (i := 2) d_LW_law_1275 rfl rfl ?_
  refine ev_aload_n (i := 0) d_LW_law_1276 rfl rfl ?_
  refine ev_iload d_LW_law_1277 rfl ?_
  refine ev_iconst (v := 1) d_LW_law_1279 rfl ?_
  refine ev_iadd d_LW_law_1280 ?_
  refine ev_sld d_LW_law_1281 i1 ?_
  refine es_callvI lk_LW_law_1282 d_LW_law_1282 rfl (c_MD_blocks hm1) rfl rfl ⟨⟨by decide, by decide⟩, hu.1, hu.2⟩ (Nat.le_of_ble_eq_true rfl) rfl hu (fun y σ2 h2 => ?_) (fun _ _ h => h.elim)
  obtain ⟨q1, q2, S2, q3, q4⟩ := law_ag h1.1 h2.1 h2.2
  refine ev_istore d_LW_law_1285 (by decide) ?_
  dsimp only [List.set_cons_zero, List.set_cons_succ]
  refine ev_aload_n (i := 2) d_LW_law_1287 rfl rfl ?_
  refine es_callvI lk_LW_law_1288 d_LW_law_1288 rfl c_MD_thrown rfl rfl ⟨⟨by decide, by decide⟩, hu.1, hu.2⟩ (Nat.le_of_ble_eq_true rfl) rfl hu (fun t3 σ3 h3 => ?_) (fun _ _ h => h.elim)
  obtain ⟨rfl, rfl⟩ := h3
  refine ev_iload d_LW_law_1291 rfl ?_
  refine ev_icmp_eq d_LW_law_1293 (fun _ => ?_) (fun h => absurd q1 h)
  refine ev_iload d_LW_law_1298 rfl ?_
  refine ev_if_ne d_LW_law_1300 (fun _ => ?_) (fun h0 => ?_)
  · refine ev_goto d_LW_law_1315 ?_
    exact nx S2 σ3 _ _ q3 q4
  obtain ⟨q5, q6⟩ := q2 (by first | exact h0 | exact Decidable.not_not.mp h0)
  refine ev_aload_n (i := 3) d_LW_law_1303 rfl rfl ?_
  refine ev_iconst (v := 0) d_LW_law_1304 rfl ?_
  refine es_lald d_LW_law_1305 rfl in_01 ?_
  rw [show σ3 64 (0 : Int32).toNatClampNeg = y from q5]
  refine ev_iload d_LW_law_1306 rfl ?_
  refine ev_i2l d_LW_law_1308 ?_
  refine ev_lcmp d_LW_law_1309 ?_
  refine ev_if_eq d_LW_law_1310 (fun _ => ?_) (fun h => absurd (lg_self _) h)
  refine ev_goto d_LW_law_1315 ?_
  exact nx S2 σ3 _ _ q3 q4
end
