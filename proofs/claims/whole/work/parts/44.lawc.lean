/-! the law: its cases -/
section LC
variable {G : wm_G} {X : wm_X} {b L : Nat} {xs : Nat → Int32} {cells slots i : Nat}
set_option maxHeartbeats 4000000 in
set_option maxRecDepth 100000 in
theorem lw_c0 (C : wm_C G X code 4 (lw_w :: wsAll) "FactFlowLaw" 10 721390 6938078) (H : lw_H G X b L xs) (hi : i + 6 ≤ L) (hcs : cells ≤ 721390) (hss : slots ≤ 6938078) (next : ∀ (A : ab_T) (g : wm_Sg), ab_ok A → cl_R A g → md_R A g → wm_W G X 4 cells slots wm_n (wm_S G) g 570 (lw_L G b i) []) {A : ab_T} {g : wm_Sg} (ok : ab_ok A) (hc : cl_R A g) (hm : md_R A g) : wm_W G X 4 cells slots wm_n (wm_S G) g 120 (lw_L G b i) [] := by
  obtain ⟨g1, e1, f1, r1⟩ := cl_add ok hc (xs (i + 1)) (xs (i + 2)) (xs (i + 3)) (xs (i + 4))
  obtain ⟨g2, e2, f2, r2⟩ := md_add ok (md_R_c f1 hm) (xs (i + 1)) (xs (i + 2)) (xs (i + 3)) (xs (i + 4))
  refine wm_aload_n C d_law_120 rfl ?_
  refine lw_rd (kn := 1) C H d_law_121 d_law_122 d_law_123 d_law_124 d_law_125 rfl (by omega) ?_
  refine lw_rd (kn := 2) C H d_law_126 d_law_127 d_law_128 d_law_129 d_law_130 rfl (by omega) ?_
  refine lw_rd (kn := 3) C H d_law_131 d_law_132 d_law_133 d_law_134 d_law_135 rfl (by omega) ?_
  refine lw_rd (kn := 4) C H d_law_136 d_law_137 d_law_138 d_law_139 d_law_140 rfl (by omega) ?_
  refine wm_cVi (o := 0) (ci := 0) (q := (Rn_0, Tn_0, 4)) (na := 4) C (mc_Ff_add 0 (xs (i + 1)) (xs (i + 2)) (xs (i + 3)) (xs (i + 4)) g _ lw_k0 e1) (gc_Ff_add mw_0_201) (by decide) rfl ⟨_, wm_S_0 lw_k0 _⟩ rfl rfl (by decide +kernel) rfl (by decide) (by decide) d_law_141 rfl (Nat.le_of_ble_eq_true rfl) hcs hss (fun r u q => ?_)
  obtain ⟨q1, q2⟩ := q
  have q2 : g1 = u := q2.symm
  have q1 := q1.symm
  subst q2
  subst q1
  refine wm_aload_n C d_law_144 rfl ?_
  refine lw_rd (kn := 1) C H d_law_145 d_law_146 d_law_147 d_law_148 d_law_149 rfl (by omega) ?_
  refine lw_rd (kn := 2) C H d_law_150 d_law_151 d_law_152 d_law_153 d_law_154 rfl (by omega) ?_
  refine lw_rd (kn := 3) C H d_law_155 d_law_156 d_law_157 d_law_158 d_law_159 rfl (by omega) ?_
  refine lw_rd (kn := 4) C H d_law_160 d_law_161 d_law_162 d_law_163 d_law_164 rfl (by omega) ?_
  refine wm_cVi (o := 186) (ci := 8) (q := (Rn_8, Tn_8, 25)) (na := 4) C (mc_Mo_add 186 (xs (i + 1)) (xs (i + 2)) (xs (i + 3)) (xs (i + 4)) g1 _ lw_k8 e2) (gc_Mo_add mw_2_64) (by decide) rfl ⟨_, wm_S_8 lw_k8 _⟩ rfl rfl (by decide +kernel) rfl (by decide) (by decide) d_law_165 rfl (Nat.le_of_ble_eq_true rfl) hcs hss (fun r u q => ?_)
  obtain ⟨q1, q2⟩ := q
  have q2 : g2 = u := q2.symm
  have q1 := q1.symm
  subst q2
  subst q1
  refine wm_icmp_eq (tgt := 570) C d_law_168 rfl (fun _ => next _ g2 (ab_add_ok ok (xs (i + 1)) (xs (i + 2)) (xs (i + 3)) (xs (i + 4))) (cl_R_c (ab_add_ok ok (xs (i + 1)) (xs (i + 2)) (xs (i + 3)) (xs (i + 4))) f2 r1) r2) (fun q => absurd rfl q)
set_option maxHeartbeats 4000000 in
set_option maxRecDepth 100000 in
theorem lw_c1 (C : wm_C G X code 4 (lw_w :: wsAll) "FactFlowLaw" 10 721390 6938078) (H : lw_H G X b L xs) (hi : i + 6 ≤ L) (hcs : cells ≤ 721390) (hss : slots ≤ 6938078) (next : ∀ (A : ab_T) (g : wm_Sg), ab_ok A → cl_R A g → md_R A g → wm_W G X 4 cells slots wm_n (wm_S G) g 570 (lw_L G b i) []) {A : ab_T} {g : wm_Sg} (ok : ab_ok A) (hc : cl_R A g) (hm : md_R A g) : wm_W G X 4 cells slots wm_n (wm_S G) g 173 (lw_L G b i) [] := by
  obtain ⟨g1, e1, f1, r1⟩ := cl_put ok hc (xs (i + 1)) (xs (i + 2)) (xs (i + 3)) (xs (i + 4)) (xs (i + 5))
  obtain ⟨g2, e2, f2, r2⟩ := md_put ok (md_R_c f1 hm) (xs (i + 1)) (xs (i + 2)) (xs (i + 3)) (xs (i + 4)) (xs (i + 5))
  refine wm_aload_n C d_law_173 rfl ?_
  refine lw_rd (kn := 1) C H d_law_174 d_law_175 d_law_176 d_law_177 d_law_178 rfl (by omega) ?_
  refine lw_rd (kn := 2) C H d_law_179 d_law_180 d_law_181 d_law_182 d_law_183 rfl (by omega) ?_
  refine lw_rd (kn := 3) C H d_law_184 d_law_185 d_law_186 d_law_187 d_law_188 rfl (by omega) ?_
  refine lw_rd (kn := 4) C H d_law_189 d_law_190 d_law_191 d_law_192 d_law_193 rfl (by omega) ?_
  refine lw_rd (kn := 5) C H d_law_194 d_law_195 d_law_196 d_law_197 d_law_198 rfl (by omega) ?_
  refine wm_cVi (o := 0) (ci := 0) (q := (Rn_0, Tn_0, 4)) (na := 5) C (mc_Ff_put 0 (xs (i + 1)) (xs (i + 2)) (xs (i + 3)) (xs (i + 4)) (xs (i + 5)) g _ lw_k0 e1) (gc_Ff_put mw_0_230) (by decide) rfl ⟨_, wm_S_0 lw_k0 _⟩ rfl rfl (by decide +kernel) rfl (by decide) (by decide) d_law_199 rfl (Nat.le_of_ble_eq_true rfl) hcs hss (fun r u q => ?_)
  obtain ⟨q1, q2⟩ := q
  have q2 : g1 = u := q2.symm
  have q1 := q1.symm
  subst q2
  subst q1
  refine wm_aload_n C d_law_202 rfl ?_
  refine lw_rd (kn := 1) C H d_law_203 d_law_204 d_law_205 d_law_206 d_law_207 rfl (by omega) ?_
  refine lw_rd (kn := 2) C H d_law_208 d_law_209 d_law_210 d_law_211 d_law_212 rfl (by omega) ?_
  refine lw_rd (kn := 3) C H d_law_213 d_law_214 d_law_215 d_law_216 d_law_217 rfl (by omega) ?_
  refine lw_rd (kn := 4) C H d_law_218 d_law_219 d_law_220 d_law_221 d_law_222 rfl (by omega) ?_
  refine lw_rd (kn := 5) C H d_law_223 d_law_224 d_law_225 d_law_226 d_law_227 rfl (by omega) ?_
  refine wm_cVi (o := 186) (ci := 8) (q := (Rn_8, Tn_8, 25)) (na := 5) C (mc_Mo_put 186 (xs (i + 1)) (xs (i + 2)) (xs (i + 3)) (xs (i + 4)) (xs (i + 5)) g1 _ lw_k8 e2) (gc_Mo_put mw_2_90) (by decide) rfl ⟨_, wm_S_8 lw_k8 _⟩ rfl rfl (by decide +kernel) rfl (by decide) (by decide) d_law_228 rfl (Nat.le_of_ble_eq_true rfl) hcs hss (fun r u q => ?_)
  obtain ⟨q1, q2⟩ := q
  have q2 : g2 = u := q2.symm
  have q1 := q1.symm
  subst q2
  subst q1
  refine wm_icmp_eq (tgt := 570) C d_law_231 rfl (fun _ => next _ g2 (ab_put_ok ok (xs (i + 1)) (xs (i + 2)) (xs (i + 3)) (xs (i + 4)) (xs (i + 5))) (cl_R_c (ab_put_ok ok (xs (i + 1)) (xs (i + 2)) (xs (i + 3)) (xs (i + 4)) (xs (i + 5))) f2 r1) r2) (fun q => absurd rfl q)
set_option maxHeartbeats 4000000 in
set_option maxRecDepth 100000 in
theorem lw_c2 (C : wm_C G X code 4 (lw_w :: wsAll) "FactFlowLaw" 10 721390 6938078) (H : lw_H G X b L xs) (hi : i + 6 ≤ L) (hcs : cells ≤ 721390) (hss : slots ≤ 6938078) (next : ∀ (A : ab_T) (g : wm_Sg), ab_ok A → cl_R A g → md_R A g → wm_W G X 4 cells slots wm_n (wm_S G) g 570 (lw_L G b i) []) {A : ab_T} {g : wm_Sg} (ok : ab_ok A) (hc : cl_R A g) (hm : md_R A g) : wm_W G X 4 cells slots wm_n (wm_S G) g 236 (lw_L G b i) [] := by
  obtain ⟨g1, e1, f1, r1⟩ := cl_clear hc
  obtain ⟨g2, e2, f2, r2⟩ := md_clear (md_R_c f1 hm)
  refine wm_aload_n C d_law_236 rfl ?_
  refine wm_cVv (o := 0) (ci := 0) (q := (Rn_0, Tn_0, 4)) (na := 0) C (mc_Ff_clear 0 g _ lw_k0 e1) (gc_Ff_clear mw_0_238) (by decide) rfl ⟨_, wm_S_0 lw_k0 _⟩ rfl rfl (by decide +kernel) rfl (by decide) (by decide) d_law_237 rfl (Nat.le_of_ble_eq_true rfl) hcs hss (fun u q => ?_)
  have q : g1 = u := q.symm
  subst q
  refine wm_aload_n C d_law_240 rfl ?_
  refine wm_cVv (o := 186) (ci := 8) (q := (Rn_8, Tn_8, 25)) (na := 0) C (mc_Mo_clear 186 g1 _ lw_k8 e2) (gc_Mo_clear mw_2_98) (by decide) rfl ⟨_, wm_S_8 lw_k8 _⟩ rfl rfl (by decide +kernel) rfl (by decide) (by decide) d_law_241 rfl (Nat.le_of_ble_eq_true rfl) hcs hss (fun u q => ?_)
  have q : g2 = u := q.symm
  subst q
  refine wm_goto (tgt := 570) C d_law_244 rfl ?_
  exact next _ g2 (ab_clear_ok ok) (cl_R_c (ab_clear_ok ok) f2 r1) r2
set_option maxHeartbeats 4000000 in
set_option maxRecDepth 100000 in
theorem lw_c3 (C : wm_C G X code 4 (lw_w :: wsAll) "FactFlowLaw" 10 721390 6938078) (H : lw_H G X b L xs) (hi : i + 6 ≤ L) (hcs : cells ≤ 721390) (hss : slots ≤ 6938078) (next : ∀ (A : ab_T) (g : wm_Sg), ab_ok A → cl_R A g → md_R A g → wm_W G X 4 cells slots wm_n (wm_S G) g 570 (lw_L G b i) []) {A : ab_T} {g : wm_Sg} (ok : ab_ok A) (hc : cl_R A g) (hm : md_R A g) : wm_W G X 4 cells slots wm_n (wm_S G) g 247 (lw_L G b i) [] := by
  have e1 := cl_length hc
  have e2 := md_length hm
  refine wm_aload_n C d_law_247 rfl ?_
  refine wm_cVi (o := 0) (ci := 0) (q := (Rn_0, Tn_0, 4)) (na := 0) C (mc_Ff_length 0 g _ lw_k0 e1) (gc_Ff_length mw_1_2) (by decide) rfl ⟨_, wm_S_0 lw_k0 _⟩ rfl rfl (by decide +kernel) rfl (by decide) (by decide) d_law_248 rfl (Nat.le_of_ble_eq_true rfl) hcs hss (fun r u q => ?_)
  obtain ⟨q1, q2⟩ := q
  have q2 : g = u := q2.symm
  have q1 := q1.symm
  subst q2
  subst q1
  refine wm_aload_n C d_law_251 rfl ?_
  refine wm_cVi (o := 186) (ci := 8) (q := (Rn_8, Tn_8, 25)) (na := 0) C (mc_Mo_length 186 g _ lw_k8 e2) (gc_Mo_length mw_2_102) (by decide) rfl ⟨_, wm_S_8 lw_k8 _⟩ rfl rfl (by decide +kernel) rfl (by decide) (by decide) d_law_252 rfl (Nat.le_of_ble_eq_true rfl) hcs hss (fun r u q => ?_)
  obtain ⟨q1, q2⟩ := q
  have q2 : g = u := q2.symm
  have q1 := q1.symm
  subst q2
  subst q1
  refine wm_icmp_eq (tgt := 570) C d_law_255 rfl (fun _ => next A g ok hc hm) (fun q => absurd rfl q)
set_option maxHeartbeats 4000000 in
set_option maxRecDepth 100000 in
theorem lw_c4 (C : wm_C G X code 4 (lw_w :: wsAll) "FactFlowLaw" 10 721390 6938078) (H : lw_H G X b L xs) (hi : i + 6 ≤ L) (hcs : cells ≤ 721390) (hss : slots ≤ 6938078) (next : ∀ (A : ab_T) (g : wm_Sg), ab_ok A → cl_R A g → md_R A g → wm_W G X 4 cells slots wm_n (wm_S G) g 570 (lw_L G b i) []) {A : ab_T} {g : wm_Sg} (ok : ab_ok A) (hc : cl_R A g) (hm : md_R A g) : wm_W G X 4 cells slots wm_n (wm_S G) g 260 (lw_L G b i) [] := by
  have e1 := cl_code ok hc (xs (i + 1)) (xs (i + 2))
  have e2 := md_code ok hm (xs (i + 1)) (xs (i + 2))
  refine wm_aload_n C d_law_260 rfl ?_
  refine lw_rd (kn := 1) C H d_law_261 d_law_262 d_law_263 d_law_264 d_law_265 rfl (by omega) ?_
  refine lw_rd (kn := 2) C H d_law_266 d_law_267 d_law_268 d_law_269 d_law_270 rfl (by omega) ?_
  refine wm_cVi (o := 0) (ci := 0) (q := (Rn_0, Tn_0, 4)) (na := 2) C (mc_Ff_code 0 (xs (i + 1)) (xs (i + 2)) g _ lw_k0 e1) (gc_Ff_code mw_1_6) (by decide) rfl ⟨_, wm_S_0 lw_k0 _⟩ rfl rfl (by decide +kernel) rfl (by decide) (by decide) d_law_271 rfl (Nat.le_of_ble_eq_true rfl) hcs hss (fun r u q => ?_)
  obtain ⟨q1, q2⟩ := q
  have q2 : g = u := q2.symm
  have q1 := q1.symm
  subst q2
  subst q1
  refine wm_aload_n C d_law_274 rfl ?_
  refine lw_rd (kn := 1) C H d_law_275 d_law_276 d_law_277 d_law_278 d_law_279 rfl (by omega) ?_
  refine lw_rd (kn := 2) C H d_law_280 d_law_281 d_law_282 d_law_283 d_law_284 rfl (by omega) ?_
  refine wm_cVi (o := 186) (ci := 8) (q := (Rn_8, Tn_8, 25)) (na := 2) C (mc_Mo_code 186 (xs (i + 1)) (xs (i + 2)) g _ lw_k8 e2) (gc_Mo_code mw_2_106) (by decide) rfl ⟨_, wm_S_8 lw_k8 _⟩ rfl rfl (by decide +kernel) rfl (by decide) (by decide) d_law_285 rfl (Nat.le_of_ble_eq_true rfl) hcs hss (fun r u q => ?_)
  obtain ⟨q1, q2⟩ := q
  have q2 : g = u := q2.symm
  have q1 := q1.symm
  subst q2
  subst q1
  refine wm_icmp_eq (tgt := 570) C d_law_288 rfl (fun _ => next A g ok hc hm) (fun q => absurd rfl q)
set_option maxHeartbeats 4000000 in
set_option maxRecDepth 100000 in
theorem lw_c5 (C : wm_C G X code 4 (lw_w :: wsAll) "FactFlowLaw" 10 721390 6938078) (H : lw_H G X b L xs) (hi : i + 6 ≤ L) (hcs : cells ≤ 721390) (hss : slots ≤ 6938078) (next : ∀ (A : ab_T) (g : wm_Sg), ab_ok A → cl_R A g → md_R A g → wm_W G X 4 cells slots wm_n (wm_S G) g 570 (lw_L G b i) []) {A : ab_T} {g : wm_Sg} (ok : ab_ok A) (hc : cl_R A g) (hm : md_R A g) : wm_W G X 4 cells slots wm_n (wm_S G) g 293 (lw_L G b i) [] := by
  obtain ⟨g1, e1, f1, r1⟩ := cl_reached ok hc (xs (i + 1))
  obtain ⟨g2, e2, f2, r2⟩ := md_reached ok (md_R_c f1 hm) (xs (i + 1))
  refine wm_aload_n C d_law_293 rfl ?_
  refine lw_rd (kn := 1) C H d_law_294 d_law_295 d_law_296 d_law_297 d_law_298 rfl (by omega) ?_
  refine wm_cVi (o := 0) (ci := 0) (q := (Rn_0, Tn_0, 4)) (na := 1) C (mc_Ff_reached 0 (xs (i + 1)) g _ lw_k0 e1) (gc_Ff_reached mw_1_14) (by decide) rfl ⟨_, wm_S_0 lw_k0 _⟩ rfl rfl (by decide +kernel) rfl (by decide) (by decide) d_law_299 rfl (Nat.le_of_ble_eq_true rfl) hcs hss (fun r u q => ?_)
  obtain ⟨q1, q2⟩ := q
  have q2 : g1 = u := q2.symm
  have q1 := q1.symm
  subst q2
  subst q1
  refine wm_aload_n C d_law_302 rfl ?_
  refine lw_rd (kn := 1) C H d_law_303 d_law_304 d_law_305 d_law_306 d_law_307 rfl (by omega) ?_
  refine wm_cVi (o := 186) (ci := 8) (q := (Rn_8, Tn_8, 25)) (na := 1) C (mc_Mo_reached 186 (xs (i + 1)) g1 _ lw_k8 e2) (gc_Mo_reached mw_2_110) (by decide) rfl ⟨_, wm_S_8 lw_k8 _⟩ rfl rfl (by decide +kernel) rfl (by decide) (by decide) d_law_308 rfl (Nat.le_of_ble_eq_true rfl) hcs hss (fun r u q => ?_)
  obtain ⟨q1, q2⟩ := q
  have q2 : g2 = u := q2.symm
  have q1 := q1.symm
  subst q2
  subst q1
  refine wm_icmp_eq (tgt := 570) C d_law_311 rfl (fun _ => next _ g2 ok (cl_R_c ok f2 r1) r2) (fun q => absurd rfl q)
set_option maxHeartbeats 4000000 in
set_option maxRecDepth 100000 in
theorem lw_c6 (C : wm_C G X code 4 (lw_w :: wsAll) "FactFlowLaw" 10 721390 6938078) (H : lw_H G X b L xs) (hi : i + 6 ≤ L) (hcs : cells ≤ 721390) (hss : slots ≤ 6938078) (next : ∀ (A : ab_T) (g : wm_Sg), ab_ok A → cl_R A g → md_R A g → wm_W G X 4 cells slots wm_n (wm_S G) g 570 (lw_L G b i) []) {A : ab_T} {g : wm_Sg} (ok : ab_ok A) (hc : cl_R A g) (hm : md_R A g) : wm_W G X 4 cells slots wm_n (wm_S G) g 316 (lw_L G b i) [] := by
  obtain ⟨g1, e1, f1, r1⟩ := cl_bits ok hc (xs (i + 1)) (xs (i + 2))
  obtain ⟨g2, e2, f2, r2⟩ := md_bits ok (md_R_c f1 hm) (xs (i + 1)) (xs (i + 2))
  refine wm_aload_n C d_law_316 rfl ?_
  refine lw_rd (kn := 1) C H d_law_317 d_law_318 d_law_319 d_law_320 d_law_321 rfl (by omega) ?_
  refine lw_rd (kn := 2) C H d_law_322 d_law_323 d_law_324 d_law_325 d_law_326 rfl (by omega) ?_
  refine wm_cVi (o := 0) (ci := 0) (q := (Rn_0, Tn_0, 4)) (na := 2) C (mc_Ff_bits 0 (xs (i + 1)) (xs (i + 2)) g _ lw_k0 e1) (gc_Ff_bits mw_1_126) (by decide) rfl ⟨_, wm_S_0 lw_k0 _⟩ rfl rfl (by decide +kernel) rfl (by decide) (by decide) d_law_327 rfl (Nat.le_of_ble_eq_true rfl) hcs hss (fun r u q => ?_)
  obtain ⟨q1, q2⟩ := q
  have q2 : g1 = u := q2.symm
  have q1 := q1.symm
  subst q2
  subst q1
  refine wm_aload_n C d_law_330 rfl ?_
  refine lw_rd (kn := 1) C H d_law_331 d_law_332 d_law_333 d_law_334 d_law_335 rfl (by omega) ?_
  refine lw_rd (kn := 2) C H d_law_336 d_law_337 d_law_338 d_law_339 d_law_340 rfl (by omega) ?_
  refine wm_cVi (o := 186) (ci := 8) (q := (Rn_8, Tn_8, 25)) (na := 2) C (mc_Mo_bits 186 (xs (i + 1)) (xs (i + 2)) g1 _ lw_k8 e2) (gc_Mo_bits mw_2_189) (by decide) rfl ⟨_, wm_S_8 lw_k8 _⟩ rfl rfl (by decide +kernel) rfl (by decide) (by decide) d_law_341 rfl (Nat.le_of_ble_eq_true rfl) hcs hss (fun r u q => ?_)
  obtain ⟨q1, q2⟩ := q
  have q2 : g2 = u := q2.symm
  have q1 := q1.symm
  subst q2
  subst q1
  refine wm_icmp_eq (tgt := 570) C d_law_344 rfl (fun _ => next _ g2 ok (cl_R_c ok f2 r1) r2) (fun q => absurd rfl q)
set_option maxHeartbeats 4000000 in
set_option maxRecDepth 100000 in
theorem lw_c7 (C : wm_C G X code 4 (lw_w :: wsAll) "FactFlowLaw" 10 721390 6938078) (H : lw_H G X b L xs) (hi : i + 6 ≤ L) (hcs : cells ≤ 721390) (hss : slots ≤ 6938078) (next : ∀ (A : ab_T) (g : wm_Sg), ab_ok A → cl_R A g → md_R A g → wm_W G X 4 cells slots wm_n (wm_S G) g 570 (lw_L G b i) []) {A : ab_T} {g : wm_Sg} (ok : ab_ok A) (hc : cl_R A g) (hm : md_R A g) : wm_W G X 4 cells slots wm_n (wm_S G) g 349 (lw_L G b i) [] := by
  obtain ⟨g1, e1, f1, r1⟩ := cl_rest ok hc (xs (i + 1)) (xs (i + 2))
  obtain ⟨g2, e2, f2, r2⟩ := md_rest ok (md_R_c f1 hm) (xs (i + 1)) (xs (i + 2))
  refine wm_aload_n C d_law_349 rfl ?_
  refine lw_rd (kn := 1) C H d_law_350 d_law_351 d_law_352 d_law_353 d_law_354 rfl (by omega) ?_
  refine lw_rd (kn := 2) C H d_law_355 d_law_356 d_law_357 d_law_358 d_law_359 rfl (by omega) ?_
  refine wm_cVi (o := 0) (ci := 0) (q := (Rn_0, Tn_0, 4)) (na := 2) C (mc_Ff_rest 0 (xs (i + 1)) (xs (i + 2)) g _ lw_k0 e1) (gc_Ff_rest mw_1_131) (by decide) rfl ⟨_, wm_S_0 lw_k0 _⟩ rfl rfl (by decide +kernel) rfl (by decide) (by decide) d_law_360 rfl (Nat.le_of_ble_eq_true rfl) hcs hss (fun r u q => ?_)
  obtain ⟨q1, q2⟩ := q
  have q2 : g1 = u := q2.symm
  have q1 := q1.symm
  subst q2
  subst q1
  refine wm_aload_n C d_law_363 rfl ?_
  refine lw_rd (kn := 1) C H d_law_364 d_law_365 d_law_366 d_law_367 d_law_368 rfl (by omega) ?_
  refine lw_rd (kn := 2) C H d_law_369 d_law_370 d_law_371 d_law_372 d_law_373 rfl (by omega) ?_
  refine wm_cVi (o := 186) (ci := 8) (q := (Rn_8, Tn_8, 25)) (na := 2) C (mc_Mo_rest 186 (xs (i + 1)) (xs (i + 2)) g1 _ lw_k8 e2) (gc_Mo_rest mw_2_197) (by decide) rfl ⟨_, wm_S_8 lw_k8 _⟩ rfl rfl (by decide +kernel) rfl (by decide) (by decide) d_law_374 rfl (Nat.le_of_ble_eq_true rfl) hcs hss (fun r u q => ?_)
  obtain ⟨q1, q2⟩ := q
  have q2 : g2 = u := q2.symm
  have q1 := q1.symm
  subst q2
  subst q1
  refine wm_icmp_eq (tgt := 570) C d_law_377 rfl (fun _ => next _ g2 ok (cl_R_c ok f2 r1) r2) (fun q => absurd rfl q)
set_option maxHeartbeats 4000000 in
set_option maxRecDepth 100000 in
theorem lw_c8 (C : wm_C G X code 4 (lw_w :: wsAll) "FactFlowLaw" 10 721390 6938078) (H : lw_H G X b L xs) (hi : i + 6 ≤ L) (hcs : cells ≤ 721390) (hss : slots ≤ 6938078) (next : ∀ (A : ab_T) (g : wm_Sg), ab_ok A → cl_R A g → md_R A g → wm_W G X 4 cells slots wm_n (wm_S G) g 570 (lw_L G b i) []) {A : ab_T} {g : wm_Sg} (ok : ab_ok A) (hc : cl_R A g) (hm : md_R A g) : wm_W G X 4 cells slots wm_n (wm_S G) g 382 (lw_L G b i) [] := by
  obtain ⟨g1, e1, f1, r1⟩ := cl_signs ok hc (xs (i + 1)) (xs (i + 2))
  obtain ⟨g2, e2, f2, r2⟩ := md_signs ok (md_R_c f1 hm) (xs (i + 1)) (xs (i + 2))
  refine wm_aload_n C d_law_382 rfl ?_
  refine lw_rd (kn := 1) C H d_law_383 d_law_384 d_law_385 d_law_386 d_law_387 rfl (by omega) ?_
  refine lw_rd (kn := 2) C H d_law_388 d_law_389 d_law_390 d_law_391 d_law_392 rfl (by omega) ?_
  refine wm_cVi (o := 0) (ci := 0) (q := (Rn_0, Tn_0, 4)) (na := 2) C (mc_Ff_signs 0 (xs (i + 1)) (xs (i + 2)) g _ lw_k0 e1) (gc_Ff_signs mw_1_135) (by decide) rfl ⟨_, wm_S_0 lw_k0 _⟩ rfl rfl (by decide +kernel) rfl (by decide) (by decide) d_law_393 rfl (Nat.le_of_ble_eq_true rfl) hcs hss (fun r u q => ?_)
  obtain ⟨q1, q2⟩ := q
  have q2 : g1 = u := q2.symm
  have q1 := q1.symm
  subst q2
  subst q1
  refine wm_aload_n C d_law_396 rfl ?_
  refine lw_rd (kn := 1) C H d_law_397 d_law_398 d_law_399 d_law_400 d_law_401 rfl (by omega) ?_
  refine lw_rd (kn := 2) C H d_law_402 d_law_403 d_law_404 d_law_405 d_law_406 rfl (by omega) ?_
  refine wm_cVi (o := 186) (ci := 8) (q := (Rn_8, Tn_8, 25)) (na := 2) C (mc_Mo_signs 186 (xs (i + 1)) (xs (i + 2)) g1 _ lw_k8 e2) (gc_Mo_signs mw_2_201) (by decide) rfl ⟨_, wm_S_8 lw_k8 _⟩ rfl rfl (by decide +kernel) rfl (by decide) (by decide) d_law_407 rfl (Nat.le_of_ble_eq_true rfl) hcs hss (fun r u q => ?_)
  obtain ⟨q1, q2⟩ := q
  have q2 : g2 = u := q2.symm
  have q1 := q1.symm
  subst q2
  subst q1
  refine wm_icmp_eq (tgt := 570) C d_law_410 rfl (fun _ => next _ g2 ok (cl_R_c ok f2 r1) r2) (fun q => absurd rfl q)
set_option maxHeartbeats 4000000 in
set_option maxRecDepth 100000 in
theorem lw_c9 (C : wm_C G X code 4 (lw_w :: wsAll) "FactFlowLaw" 10 721390 6938078) (H : lw_H G X b L xs) (hi : i + 6 ≤ L) (hcs : cells ≤ 721390) (hss : slots ≤ 6938078) (next : ∀ (A : ab_T) (g : wm_Sg), ab_ok A → cl_R A g → md_R A g → wm_W G X 4 cells slots wm_n (wm_S G) g 570 (lw_L G b i) []) {A : ab_T} {g : wm_Sg} (ok : ab_ok A) (hc : cl_R A g) (hm : md_R A g) : wm_W G X 4 cells slots wm_n (wm_S G) g 415 (lw_L G b i) [] := by
  obtain ⟨g1, e1, f1, r1⟩ := cl_rewrite ok hc
  obtain ⟨g2, e2, f2, r2⟩ := md_rewrite ok (md_R_c f1 hm)
  refine wm_aload_n C d_law_415 rfl ?_
  refine wm_cVi (o := 0) (ci := 0) (q := (Rn_0, Tn_0, 4)) (na := 0) C (mc_Ff_rewrite 0 g _ lw_k0 e1) (gc_Ff_rewrite mw_1_139) (by decide) rfl ⟨_, wm_S_0 lw_k0 _⟩ rfl rfl (by decide +kernel) rfl (by decide) (by decide) d_law_416 rfl (Nat.le_of_ble_eq_true rfl) hcs hss (fun r u q => ?_)
  obtain ⟨q1, q2⟩ := q
  have q2 : g1 = u := q2.symm
  have q1 := q1.symm
  subst q2
  subst q1
  refine wm_aload_n C d_law_419 rfl ?_
  refine wm_cVi (o := 186) (ci := 8) (q := (Rn_8, Tn_8, 25)) (na := 0) C (mc_Mo_rewrite 186 g1 _ lw_k8 e2) (gc_Mo_rewrite mw_2_205) (by decide) rfl ⟨_, wm_S_8 lw_k8 _⟩ rfl rfl (by decide +kernel) rfl (by decide) (by decide) d_law_420 rfl (Nat.le_of_ble_eq_true rfl) hcs hss (fun r u q => ?_)
  obtain ⟨q1, q2⟩ := q
  have q2 : g2 = u := q2.symm
  have q1 := q1.symm
  subst q2
  subst q1
  refine wm_icmp_eq (tgt := 570) C d_law_423 rfl (fun _ => next _ g2 (ab_rewrite_ok ok) (cl_R_c (ab_rewrite_ok ok) f2 r1) r2) (fun q => absurd rfl q)
set_option maxHeartbeats 4000000 in
set_option maxRecDepth 100000 in
theorem lw_c10 (C : wm_C G X code 4 (lw_w :: wsAll) "FactFlowLaw" 10 721390 6938078) (H : lw_H G X b L xs) (hi : i + 6 ≤ L) (hcs : cells ≤ 721390) (hss : slots ≤ 6938078) (next : ∀ (A : ab_T) (g : wm_Sg), ab_ok A → cl_R A g → md_R A g → wm_W G X 4 cells slots wm_n (wm_S G) g 570 (lw_L G b i) []) {A : ab_T} {g : wm_Sg} (ok : ab_ok A) (hc : cl_R A g) (hm : md_R A g) : wm_W G X 4 cells slots wm_n (wm_S G) g 428 (lw_L G b i) [] := by
  obtain ⟨g1, e1, f1, r1⟩ := cl_input ok hc (xs (i + 1))
  obtain ⟨g2, e2, f2, r2⟩ := md_input ok (md_R_c f1 hm) (xs (i + 1))
  refine wm_aload_n C d_law_428 rfl ?_
  refine lw_rd (kn := 1) C H d_law_429 d_law_430 d_law_431 d_law_432 d_law_433 rfl (by omega) ?_
  refine wm_cVi (o := 0) (ci := 0) (q := (Rn_0, Tn_0, 4)) (na := 1) C (mc_Ff_input 0 (xs (i + 1)) g _ lw_k0 e1) (gc_Ff_input mw_1_160) (by decide) rfl ⟨_, wm_S_0 lw_k0 _⟩ rfl rfl (by decide +kernel) rfl (by decide) (by decide) d_law_434 rfl (Nat.le_of_ble_eq_true rfl) hcs hss (fun r u q => ?_)
  obtain ⟨q1, q2⟩ := q
  have q2 : g1 = u := q2.symm
  have q1 := q1.symm
  subst q2
  subst q1
  refine wm_aload_n C d_law_437 rfl ?_
  refine lw_rd (kn := 1) C H d_law_438 d_law_439 d_law_440 d_law_441 d_law_442 rfl (by omega) ?_
  refine wm_cVi (o := 186) (ci := 8) (q := (Rn_8, Tn_8, 25)) (na := 1) C (mc_Mo_input 186 (xs (i + 1)) g1 _ lw_k8 e2) (gc_Mo_input mw_2_213) (by decide) rfl ⟨_, wm_S_8 lw_k8 _⟩ rfl rfl (by decide +kernel) rfl (by decide) (by decide) d_law_443 rfl (Nat.le_of_ble_eq_true rfl) hcs hss (fun r u q => ?_)
  obtain ⟨q1, q2⟩ := q
  have q2 : g2 = u := q2.symm
  have q1 := q1.symm
  subst q2
  subst q1
  refine wm_icmp_eq (tgt := 570) C d_law_446 rfl (fun _ => next _ g2 (ab_input_ok ok (xs (i + 1))) (cl_R_c (ab_input_ok ok (xs (i + 1))) f2 r1) r2) (fun q => absurd rfl q)
set_option maxHeartbeats 4000000 in
set_option maxRecDepth 100000 in
theorem lw_c11 (C : wm_C G X code 4 (lw_w :: wsAll) "FactFlowLaw" 10 721390 6938078) (H : lw_H G X b L xs) (hi : i + 6 ≤ L) (hcs : cells ≤ 721390) (hss : slots ≤ 6938078) (next : ∀ (A : ab_T) (g : wm_Sg), ab_ok A → cl_R A g → md_R A g → wm_W G X 4 cells slots wm_n (wm_S G) g 570 (lw_L G b i) []) {A : ab_T} {g : wm_Sg} (ok : ab_ok A) (hc : cl_R A g) (hm : md_R A g) : wm_W G X 4 cells slots wm_n (wm_S G) g 451 (lw_L G b i) [] := by
  obtain ⟨g1, e1, f1, r1⟩ := cl_dry ok hc
  obtain ⟨g2, e2, f2, r2⟩ := md_dry (md_R_c f1 hm)
  refine wm_aload_n C d_law_451 rfl ?_
  refine wm_cVv (o := 0) (ci := 0) (q := (Rn_0, Tn_0, 4)) (na := 0) C (mc_Ff_dry 0 g _ lw_k0 e1) (gc_Ff_dry mw_1_168) (by decide) rfl ⟨_, wm_S_0 lw_k0 _⟩ rfl rfl (by decide +kernel) rfl (by decide) (by decide) d_law_452 rfl (Nat.le_of_ble_eq_true rfl) hcs hss (fun u q => ?_)
  have q : g1 = u := q.symm
  subst q
  refine wm_aload_n C d_law_455 rfl ?_
  refine wm_cVv (o := 186) (ci := 8) (q := (Rn_8, Tn_8, 25)) (na := 0) C (mc_Mo_dry 186 g1 _ lw_k8 e2) (gc_Mo_dry mw_2_217) (by decide) rfl ⟨_, wm_S_8 lw_k8 _⟩ rfl rfl (by decide +kernel) rfl (by decide) (by decide) d_law_456 rfl (Nat.le_of_ble_eq_true rfl) hcs hss (fun u q => ?_)
  have q : g2 = u := q.symm
  subst q
  refine wm_goto (tgt := 570) C d_law_459 rfl ?_
  exact next _ g2 (ab_dry_ok ok) (cl_R_c (ab_dry_ok ok) f2 r1) r2
set_option maxHeartbeats 4000000 in
set_option maxRecDepth 100000 in
theorem lw_c12 (C : wm_C G X code 4 (lw_w :: wsAll) "FactFlowLaw" 10 721390 6938078) (H : lw_H G X b L xs) (hi : i + 6 ≤ L) (hcs : cells ≤ 721390) (hss : slots ≤ 6938078) (next : ∀ (A : ab_T) (g : wm_Sg), ab_ok A → cl_R A g → md_R A g → wm_W G X 4 cells slots wm_n (wm_S G) g 570 (lw_L G b i) []) {A : ab_T} {g : wm_Sg} (ok : ab_ok A) (hc : cl_R A g) (hm : md_R A g) : wm_W G X 4 cells slots wm_n (wm_S G) g 462 (lw_L G b i) [] := by
  obtain ⟨g1, e1, f1, r1⟩ := cl_run ok hc (xs (i + 1))
  obtain ⟨g2, e2, f2, r2⟩ := md_run ok (md_R_c f1 hm) (xs (i + 1))
  refine wm_aload_n C d_law_462 rfl ?_
  refine lw_rd (kn := 1) C H d_law_463 d_law_464 d_law_465 d_law_466 d_law_467 rfl (by omega) ?_
  refine wm_cVi (o := 0) (ci := 0) (q := (Rn_0, Tn_0, 4)) (na := 1) C (mc_Ff_run 0 (xs (i + 1)) g _ lw_k0 e1) (gc_Ff_run mw_1_172) (by decide) rfl ⟨_, wm_S_0 lw_k0 _⟩ rfl rfl (by decide +kernel) rfl (by decide) (by decide) d_law_468 rfl (Nat.le_of_ble_eq_true rfl) hcs hss (fun r u q => ?_)
  obtain ⟨q1, q2⟩ := q
  have q2 : g1 = u := q2.symm
  have q1 := q1.symm
  subst q2
  subst q1
  refine wm_aload_n C d_law_471 rfl ?_
  refine lw_rd (kn := 1) C H d_law_472 d_law_473 d_law_474 d_law_475 d_law_476 rfl (by omega) ?_
  refine wm_cVi (o := 186) (ci := 8) (q := (Rn_8, Tn_8, 25)) (na := 1) C (mc_Mo_run 186 (xs (i + 1)) g1 _ lw_k8 e2) (gc_Mo_run mw_2_221) (by decide) rfl ⟨_, wm_S_8 lw_k8 _⟩ rfl rfl (by decide +kernel) rfl (by decide) (by decide) d_law_477 rfl (Nat.le_of_ble_eq_true rfl) hcs hss (fun r u q => ?_)
  obtain ⟨q1, q2⟩ := q
  have q2 : g2 = u := q2.symm
  have q1 := q1.symm
  subst q2
  subst q1
  refine wm_icmp_eq (tgt := 570) C d_law_480 rfl (fun _ => next _ g2 (ab_run_ok ok (xs (i + 1))) (cl_R_c (ab_run_ok ok (xs (i + 1))) f2 r1) r2) (fun q => absurd rfl q)
set_option maxHeartbeats 4000000 in
set_option maxRecDepth 100000 in
theorem lw_c13 (C : wm_C G X code 4 (lw_w :: wsAll) "FactFlowLaw" 10 721390 6938078) (H : lw_H G X b L xs) (hi : i + 6 ≤ L) (hcs : cells ≤ 721390) (hss : slots ≤ 6938078) (next : ∀ (A : ab_T) (g : wm_Sg), ab_ok A → cl_R A g → md_R A g → wm_W G X 4 cells slots wm_n (wm_S G) g 570 (lw_L G b i) []) {A : ab_T} {g : wm_Sg} (ok : ab_ok A) (hc : cl_R A g) (hm : md_R A g) : wm_W G X 4 cells slots wm_n (wm_S G) g 485 (lw_L G b i) [] := by
  have e1 := cl_steps hc
  have e2 := md_steps hm
  refine wm_aload_n C d_law_485 rfl ?_
  refine wm_cVi (o := 0) (ci := 0) (q := (Rn_0, Tn_0, 4)) (na := 0) C (mc_Ff_steps 0 g _ lw_k0 e1) (gc_Ff_steps mw_1_202) (by decide) rfl ⟨_, wm_S_0 lw_k0 _⟩ rfl rfl (by decide +kernel) rfl (by decide) (by decide) d_law_486 rfl (Nat.le_of_ble_eq_true rfl) hcs hss (fun r u q => ?_)
  obtain ⟨q1, q2⟩ := q
  have q2 : g = u := q2.symm
  have q1 := q1.symm
  subst q2
  subst q1
  refine wm_aload_n C d_law_489 rfl ?_
  refine wm_cVi (o := 186) (ci := 8) (q := (Rn_8, Tn_8, 25)) (na := 0) C (mc_Mo_steps 186 g _ lw_k8 e2) (gc_Mo_steps mw_3_1) (by decide) rfl ⟨_, wm_S_8 lw_k8 _⟩ rfl rfl (by decide +kernel) rfl (by decide) (by decide) d_law_490 rfl (Nat.le_of_ble_eq_true rfl) hcs hss (fun r u q => ?_)
  obtain ⟨q1, q2⟩ := q
  have q2 : g = u := q2.symm
  have q1 := q1.symm
  subst q2
  subst q1
  refine wm_icmp_eq (tgt := 570) C d_law_493 rfl (fun _ => next A g ok hc hm) (fun q => absurd rfl q)
set_option maxHeartbeats 4000000 in
set_option maxRecDepth 100000 in
theorem lw_c14 (C : wm_C G X code 4 (lw_w :: wsAll) "FactFlowLaw" 10 721390 6938078) (H : lw_H G X b L xs) (hi : i + 6 ≤ L) (hcs : cells ≤ 721390) (hss : slots ≤ 6938078) (next : ∀ (A : ab_T) (g : wm_Sg), ab_ok A → cl_R A g → md_R A g → wm_W G X 4 cells slots wm_n (wm_S G) g 570 (lw_L G b i) []) {A : ab_T} {g : wm_Sg} (ok : ab_ok A) (hc : cl_R A g) (hm : md_R A g) : wm_W G X 4 cells slots wm_n (wm_S G) g 498 (lw_L G b i) [] := by
  have e1 := cl_next hc
  have e2 := md_next hm
  refine wm_aload_n C d_law_498 rfl ?_
  refine wm_cVi (o := 0) (ci := 0) (q := (Rn_0, Tn_0, 4)) (na := 0) C (mc_Ff_next 0 g _ lw_k0 e1) (gc_Ff_next mw_1_206) (by decide) rfl ⟨_, wm_S_0 lw_k0 _⟩ rfl rfl (by decide +kernel) rfl (by decide) (by decide) d_law_499 rfl (Nat.le_of_ble_eq_true rfl) hcs hss (fun r u q => ?_)
  obtain ⟨q1, q2⟩ := q
  have q2 : g = u := q2.symm
  have q1 := q1.symm
  subst q2
  subst q1
  refine wm_aload_n C d_law_502 rfl ?_
  refine wm_cVi (o := 186) (ci := 8) (q := (Rn_8, Tn_8, 25)) (na := 0) C (mc_Mo_next 186 g _ lw_k8 e2) (gc_Mo_next mw_3_5) (by decide) rfl ⟨_, wm_S_8 lw_k8 _⟩ rfl rfl (by decide +kernel) rfl (by decide) (by decide) d_law_503 rfl (Nat.le_of_ble_eq_true rfl) hcs hss (fun r u q => ?_)
  obtain ⟨q1, q2⟩ := q
  have q2 : g = u := q2.symm
  have q1 := q1.symm
  subst q2
  subst q1
  refine wm_icmp_eq (tgt := 570) C d_law_506 rfl (fun _ => next A g ok hc hm) (fun q => absurd rfl q)
set_option maxHeartbeats 4000000 in
set_option maxRecDepth 100000 in
theorem lw_c15 (C : wm_C G X code 4 (lw_w :: wsAll) "FactFlowLaw" 10 721390 6938078) (H : lw_H G X b L xs) (hi : i + 6 ≤ L) (hcs : cells ≤ 721390) (hss : slots ≤ 6938078) (next : ∀ (A : ab_T) (g : wm_Sg), ab_ok A → cl_R A g → md_R A g → wm_W G X 4 cells slots wm_n (wm_S G) g 570 (lw_L G b i) []) {A : ab_T} {g : wm_Sg} (ok : ab_ok A) (hc : cl_R A g) (hm : md_R A g) : wm_W G X 4 cells slots wm_n (wm_S G) g 511 (lw_L G b i) [] := by
  have e1 := cl_variable hc (xs (i + 1))
  have e2 := md_variable hm (xs (i + 1))
  refine wm_aload_n C d_law_511 rfl ?_
  refine lw_rd (kn := 1) C H d_law_512 d_law_513 d_law_514 d_law_515 d_law_516 rfl (by omega) ?_
  refine wm_cVi (o := 0) (ci := 0) (q := (Rn_0, Tn_0, 4)) (na := 1) C (mc_Ff_variable 0 (xs (i + 1)) g _ lw_k0 e1) (gc_Ff_variable mw_1_210) (by decide) rfl ⟨_, wm_S_0 lw_k0 _⟩ rfl rfl (by decide +kernel) rfl (by decide) (by decide) d_law_517 rfl (Nat.le_of_ble_eq_true rfl) hcs hss (fun r u q => ?_)
  obtain ⟨q1, q2⟩ := q
  have q2 : g = u := q2.symm
  have q1 := q1.symm
  subst q2
  subst q1
  refine wm_aload_n C d_law_520 rfl ?_
  refine lw_rd (kn := 1) C H d_law_521 d_law_522 d_law_523 d_law_524 d_law_525 rfl (by omega) ?_
  refine wm_cVi (o := 186) (ci := 8) (q := (Rn_8, Tn_8, 25)) (na := 1) C (mc_Mo_variable 186 (xs (i + 1)) g _ lw_k8 e2) (gc_Mo_variable mw_3_9) (by decide) rfl ⟨_, wm_S_8 lw_k8 _⟩ rfl rfl (by decide +kernel) rfl (by decide) (by decide) d_law_526 rfl (Nat.le_of_ble_eq_true rfl) hcs hss (fun r u q => ?_)
  obtain ⟨q1, q2⟩ := q
  have q2 : g = u := q2.symm
  have q1 := q1.symm
  subst q2
  subst q1
  refine wm_icmp_eq (tgt := 570) C d_law_529 rfl (fun _ => next A g ok hc hm) (fun q => absurd rfl q)
set_option maxHeartbeats 4000000 in
set_option maxRecDepth 100000 in
theorem lw_c16 (C : wm_C G X code 4 (lw_w :: wsAll) "FactFlowLaw" 10 721390 6938078) (H : lw_H G X b L xs) (hi : i + 6 ≤ L) (hcs : cells ≤ 721390) (hss : slots ≤ 6938078) (next : ∀ (A : ab_T) (g : wm_Sg), ab_ok A → cl_R A g → md_R A g → wm_W G X 4 cells slots wm_n (wm_S G) g 570 (lw_L G b i) []) {A : ab_T} {g : wm_Sg} (ok : ab_ok A) (hc : cl_R A g) (hm : md_R A g) : wm_W G X 4 cells slots wm_n (wm_S G) g 534 (lw_L G b i) [] := by
  have e1 := cl_outputs hc
  have e2 := md_outputs hm
  refine wm_aload_n C d_law_534 rfl ?_
  refine wm_cVi (o := 0) (ci := 0) (q := (Rn_0, Tn_0, 4)) (na := 0) C (mc_Ff_outputs 0 g _ lw_k0 e1) (gc_Ff_outputs mw_1_214) (by decide) rfl ⟨_, wm_S_0 lw_k0 _⟩ rfl rfl (by decide +kernel) rfl (by decide) (by decide) d_law_535 rfl (Nat.le_of_ble_eq_true rfl) hcs hss (fun r u q => ?_)
  obtain ⟨q1, q2⟩ := q
  have q2 : g = u := q2.symm
  have q1 := q1.symm
  subst q2
  subst q1
  refine wm_aload_n C d_law_538 rfl ?_
  refine wm_cVi (o := 186) (ci := 8) (q := (Rn_8, Tn_8, 25)) (na := 0) C (mc_Mo_outputs 186 g _ lw_k8 e2) (gc_Mo_outputs mw_3_13) (by decide) rfl ⟨_, wm_S_8 lw_k8 _⟩ rfl rfl (by decide +kernel) rfl (by decide) (by decide) d_law_539 rfl (Nat.le_of_ble_eq_true rfl) hcs hss (fun r u q => ?_)
  obtain ⟨q1, q2⟩ := q
  have q2 : g = u := q2.symm
  have q1 := q1.symm
  subst q2
  subst q1
  refine wm_icmp_eq (tgt := 570) C d_law_542 rfl (fun _ => next A g ok hc hm) (fun q => absurd rfl q)
set_option maxHeartbeats 4000000 in
set_option maxRecDepth 100000 in
theorem lw_c17 (C : wm_C G X code 4 (lw_w :: wsAll) "FactFlowLaw" 10 721390 6938078) (H : lw_H G X b L xs) (hi : i + 6 ≤ L) (hcs : cells ≤ 721390) (hss : slots ≤ 6938078) (next : ∀ (A : ab_T) (g : wm_Sg), ab_ok A → cl_R A g → md_R A g → wm_W G X 4 cells slots wm_n (wm_S G) g 570 (lw_L G b i) []) {A : ab_T} {g : wm_Sg} (ok : ab_ok A) (hc : cl_R A g) (hm : md_R A g) : wm_W G X 4 cells slots wm_n (wm_S G) g 547 (lw_L G b i) [] := by
  have e1 := cl_output ok hc (xs (i + 1))
  have e2 := md_output ok hm (xs (i + 1))
  refine wm_aload_n C d_law_547 rfl ?_
  refine lw_rd (kn := 1) C H d_law_548 d_law_549 d_law_550 d_law_551 d_law_552 rfl (by omega) ?_
  refine wm_cVi (o := 0) (ci := 0) (q := (Rn_0, Tn_0, 4)) (na := 1) C (mc_Ff_output 0 (xs (i + 1)) g _ lw_k0 e1) (gc_Ff_output mw_1_218) (by decide) rfl ⟨_, wm_S_0 lw_k0 _⟩ rfl rfl (by decide +kernel) rfl (by decide) (by decide) d_law_553 rfl (Nat.le_of_ble_eq_true rfl) hcs hss (fun r u q => ?_)
  obtain ⟨q1, q2⟩ := q
  have q2 : g = u := q2.symm
  have q1 := q1.symm
  subst q2
  subst q1
  refine wm_aload_n C d_law_556 rfl ?_
  refine lw_rd (kn := 1) C H d_law_557 d_law_558 d_law_559 d_law_560 d_law_561 rfl (by omega) ?_
  refine wm_cVi (o := 186) (ci := 8) (q := (Rn_8, Tn_8, 25)) (na := 1) C (mc_Mo_output 186 (xs (i + 1)) g _ lw_k8 e2) (gc_Mo_output mw_3_17) (by decide) rfl ⟨_, wm_S_8 lw_k8 _⟩ rfl rfl (by decide +kernel) rfl (by decide) (by decide) d_law_562 rfl (Nat.le_of_ble_eq_true rfl) hcs hss (fun r u q => ?_)
  obtain ⟨q1, q2⟩ := q
  have q2 : g = u := q2.symm
  have q1 := q1.symm
  subst q2
  subst q1
  refine wm_icmp_eq (tgt := 570) C d_law_565 rfl (fun _ => next A g ok hc hm) (fun q => absurd rfl q)
end LC
