/-! the law: its cases -/
section LC
variable {G : wm_G} {X : wm_X} {b L : Nat} {xs : Nat → Int32} {cells slots i : Nat}
set_option maxHeartbeats 4000000 in
set_option maxRecDepth 100000 in
theorem lw_c0 (C : wm_C G X code 4 (lw_w :: wsAll) "FactFlowLaw" 10 721390 6938078) (H : lw_H G X b L xs) (hi : i + 6 ≤ L) (hcs : cells ≤ 721390) (hss : slots ≤ 6938078) (next : ∀ (A : ab_T) (g : wm_Sg), ab_ok A → cl_R A g → md_R A g → wm_W G X 4 cells slots wm_n (wm_S G) g 570 (lw_L G b i) []) {A : ab_T} {g : wm_Sg} (ok : ab_ok A) (hc : cl_R A g) (hm : md_R A g) : wm_W G X 4 cells slots wm_n (wm_S G) g 120 (lw_L G b i) [] := by
  obtain ⟨g1, e1, f1, r1⟩ := cl_add ok hc (xs (i + 1)) (xs (i + 2)) (xs (i + 3)) (xs (i + 4))
  obtain ⟨g2, e2, f2, r2⟩ := md_add ok (md_R_c f1 hm) (xs (i + 1)) (xs (i + 2)) (xs (i + 3)) (xs (i + 4))
  refine wm_aload_n C d_law_120 rfl ?_
  refine lw_rd (kn := 1) C H d_law_121 d_law_122 d_law_123 d_law_124 d_law_125 rfl (by omega) ?_
  refine lw_rd (kn := 2) C H d_law_126 d_law_127 d_law_128 d_law_129 d_law_130 rfl (by omega) ?_
  refine lw_rd (kn := 3) C H d_law_131 d_law_132 d_law_133 d_law_134 d_law_135 rfl (by omega) ?_
  refine lw_rd (kn := 4) C H d_law_136 d_law_137 d_law_138 d_law_139 d_law_140 rfl (by omega) ?_
  refine wm_cVi (o := 0) (ci := 0) (q := (Rn_0, Tn_0, 4)) (na := 4) C (mc_Ff_add 0 (xs (i + 1)) (xs (i + 2)) (xs (i + 3)) (xs (i + 4)) g _ lw_k0 e1) (gc_Ff_add mw_0_201) (by decide) rfl ⟨_, wm_S_0 lw_k0 _⟩ rfl rfl (by decide +kernel) rfl (by decide) (by decide) d_law_141 rfl (Nat.le_of_ble_eq_true rfl) hcs hss (fun r u q => ?_)
  obtain ⟨q1, q2⟩ := q
  have q2 : g1 = u := q2.symm
  have q1 := q1.symm
  subst q2
  subst q1
  refine wm_aload_n C d_law_144 rfl ?_
  refine lw_rd (kn := 1) C H d_law_145 d_law_146 d_law_147 d_law_148 d_law_149 rfl (by omega) ?_
  refine lw_rd (kn := 2) C H d_law_150 d_law_151 d_law_152 d_law_153 d_law_154 rfl (by omega) ?_
  refine lw_rd (kn := 3) C H d_law_155 d_law_156 d_law_157 d_law_158 d_law_159 rfl (by omega) ?_
  refine lw_rd (kn := 4) C H d_law_160 d_law_161 d_law_162 d_law_163 d_law_164 rfl (by omega) ?_
  refine wm_cVi (o := 186) (ci := 8) (q := (Rn_8, Tn_8, 25)) (na := 4) C (mc_Mo_add 186 (xs (i + 1)) (xs (i + 2)) (xs (i + 3)) (xs (i + 4)) g1 _ lw_k8 e2) (gc_Mo_add mw_2_64) (by decide) rfl ⟨_, wm_S_8 lw_k8 _⟩ rfl rfl (by decide +kernel) rfl (by decide) (by decide) d_law_165 rfl (Nat.le_of_ble_eq_true rfl) hcs hss (fun r u q => ?_)
  obtain ⟨q1, q2⟩ := q
  have q2 : g2 = u := q2.symm
  have q1 := q1.symm
  subst q2
  subst q1
  refine wm_icmp_eq (tgt := 570) C d_law_168 rfl (fun _ => next _ g2 (ab_add_ok ok (xs (i + 1)) (xs (i + 2)) (xs (i + 3)) (xs (i + 4))) (cl_R_c (ab_add_ok ok (xs (i + 1)) (xs (i + 2)) (xs (i + 3)) (xs (i + 4))) f2 r1) r2) (fun q => absurd rfl q)
set_option maxHeartbeats 4000000 in
set_option maxRecDepth 100000 in
theorem lw_c1 (C : wm_C G X code 4 (lw_w :: wsAll) "FactFlowLaw" 10 721390 6938078) (H : lw_H G X b L xs) (hi : i + 6 ≤ L) (hcs : cells ≤ 721390) (hss : slots ≤ 6938078) (next : ∀ (A : ab_T) (g : wm_Sg), ab_ok A → cl_R A g → md_R A g → wm_W G X 4 cells slots wm_n (wm_S G) g 570 (lw_L G b i) []) {A : ab_T} {g : wm_Sg} (ok : ab_ok A) (hc : cl_R A g) (hm : md_R A g) : wm_W G X 4 cells slots wm_n (wm_S G) g 173 (lw_L G b i) [] := by
  obtain ⟨g1, e1, f1, r1⟩ := cl_put ok hc (xs (i + 1)) (xs (i + 2)) (xs (i + 3)) (xs (i + 4)) (xs (i + 5))
  obtain ⟨g2, e2, f2, r2⟩ := md_put ok (md_R_c f1 hm) (xs (i + 1)) (xs (i + 2)) (xs (i + 3)) (xs (i + 4)) (xs (i + 5))
  refine wm_aload_n C d_law_173 rfl ?_
  refine lw_rd (kn := 1) C H d_law_174 d_law_175 d_law_176 d_law_177 d_law_178 rfl (by omega) ?_
  refine lw_rd (kn := 2) C H d_law_179 d_law_180 d_law_181 d_law_182 d_law_183 rfl (by omega) ?_
  refine lw_rd (kn := 3) C H d_law_184 d_law_185 d_law_186 d_law_187 d_law_188 rfl (by omega) ?_
  refine lw_rd (kn := 4) C H d_law_189 d_law_190 d_law_191 d_law_192 d_law_193 rfl (by omega) ?_
  refine lw_rd (kn := 5) C H d_law_194 d_law_195 d_law_196 d_law_197 d_law_198 rfl (by omega) ?_
  refine wm_cVi (o := 0) (ci := 0) (q := (Rn_0, Tn_0, 4)) (na := 5) C (mc_Ff_put 0 (xs (i + 1)) (xs (i + 2)) (xs (i + 3)) (xs (i + 4)) (xs (i + 5)) g _ lw_k0 e1) (gc_Ff_put mw_0_230) (by decide) rfl ⟨_, wm_S_0 lw_k0 _⟩ rfl rfl (by decide +kernel) rfl (by decide) (by decide) d_law_199 rfl (Nat.le_of_ble_eq_true rfl) hcs hss (fun r u q => ?_)
  obtain ⟨q1, q2⟩ := q
  have q2 : g1 = u := q2.symm
  have q1 := q1.symm
  subst q2
  subst q1
  refine wm_aload_n C d_law_202 rfl ?_
  refine lw_rd (kn := 1) C H d_law_203 d_law_204 d_law_205 d_law_206 d_law_207 rfl (by omega) ?_
  refine lw_rd (kn := 2) C H d_law_208 d_law_209 d_law_210 d_law_211 d_law_212 rfl (by omega) ?_
  refine lw_rd (kn := 3) C H d_law_213 d_law_214 d_law_215 d_law_216 d_law_217 rfl (by omega) ?_
  refine lw_rd (kn := 4) C H d_law_218 d_law_219 d_law_220 d_law_221 d_law_222 rfl (by omega) ?_
  refine lw_rd (kn := 5) C H d_law_223 d_law_224 d_law_225 d_law_226 d_law_227 rfl (by omega) ?_
  refine wm_cVi (o := 186) (ci := 8) (q := (Rn_8, Tn_8, 25)) (na := 5) C (mc_Mo_put 186 (xs (i + 1)) (xs (i + 2)) (xs (i + 3)) (xs (i + 4)) (xs (i + 5)) g1 _ lw_k8 e2) (gc_Mo_put mw_2_90) (by decide) rfl ⟨_, wm_S_8 lw_k8 _⟩ rfl rfl (by decide +kernel) rfl (by decide) (by decide) d_law_228 rfl (Nat.le_of_ble_eq_true rfl) hcs hss (fun r u q => ?_)
  obtain ⟨q1, q2⟩ := q
  have q2 : g2 = u := q2.symm
  have q1 := q1.symm
  subst q2
  subst q1
  refine wm_icmp_eq (tgt := 570) C d_law_231 rfl (fun _ => next _ g2 (ab_put_ok ok (xs (i + 1)) (xs (i + 2)) (xs (i + 3)) (xs (i + 4)) (xs (i + 5))) (cl_R_c (ab_put_ok ok (xs (i + 1)) (xs (i + 2)) (xs (i + 3)) (xs (i + 4)) (xs (i + 5))) f2 r1) r2) (fun q => absurd rfl q)
set_option maxHeartbeats 4000000 in
set_option maxRecDepth 100000 in
theorem lw_c2 (C : wm_C G X code 4 (lw_w :: wsAll) "FactFlowLaw" 10 721390 6938078) (H : lw_H G X b L xs) (hi : i + 6 ≤ L) (hcs : cells ≤ 721390) (hss : slots ≤ 6938078) (next : ∀ (A : ab_T) (g : wm_Sg), ab_ok A → cl_R A g → md_R A g → wm_W G X 4 cells slots wm_n (wm_S G) g 570 (lw_L G b i) []) {A : ab_T} {g : wm_Sg} (ok : ab_ok A) (hc : cl_R A g) (hm : md_R A g) : wm_W G X 4 cells slots wm_n (wm_S G) g 236 (lw_L G b i) [] := by
  obtain ⟨g1, e1, f1, r1⟩ := cl_clear hc
  obtain ⟨g2, e2, f2, r2⟩ := md_clear (md_R_c f1 hm)
  refine wm_aload_n C d_law_236 rfl ?_
  refine wm_cVv (o := 0) (ci := 0) (q := (Rn_0, Tn_0, 4)) (na := 0) C (mc_Ff_clear 0 g _ lw_k0 e1) (gc_Ff_clear mw_0_238) (by decide) rfl ⟨_, wm_S_0 lw_k0 _⟩ rfl rfl (by decide +kernel) rfl (by decide) (by decide) d_law_237 rfl (Nat.le_of_ble_eq_true rfl) hcs hss (fun u q => ?_)
  have q : g1 = u := q.symm
  subst q
  refine wm_aload_n C d_law_240 rfl ?_
  refine wm_cVv (o := 186) (ci := 8) (q := (Rn_8, Tn_8, 25)) (na := 0) C (mc_Mo_clear 186 g1 _ lw_k8 e2) (gc_Mo_clear mw_2_98) (by decide) rfl ⟨_, wm_S_8 lw_k8 _⟩ rfl rfl (by decide +kernel) rfl (by decide) (by decide) d_law_241 rfl (Nat.le_of_ble_eq_true rfl) hcs hss (fun u q => ?_)
  have q : g2 = u := q.symm
  subst q
  refine wm_goto (tgt := 570) C d_law_244 rfl ?_
  exact next _ g2 (ab_clear_ok ok) (cl_R_c (ab_clear_ok ok) f2 r1) r2
end LC
