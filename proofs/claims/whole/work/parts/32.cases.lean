set_option maxRecDepth 20000 in
set_option maxHeartbeats 2000000 in
theorem law_rake {Inv : Nat → gI → gJ → Prop} {b L : Nat} {xs : Nat → Int32} {nc ns m : Nat} {I : gI} {J : gJ} {x3 : Int32} (hop : op_rake Inv) (hI : Inv m I J) (h1 : vp_in (x3 + 1) L) (h2 : vp_in (x3 + 2) L) (h3 : vp_in (x3 + 3) L) (h4 : vp_in (x3 + 4) L) (h5 : vp_in (x3 + 5) L) (h6 : vp_in (x3 + 6) L) (h7 : vp_in (x3 + 7) L) (hc : nc + 2 ≤ 600000 ∧ ns + 50 ≤ 7302250) (k : ∀ (m2 : Nat) (I2 : gI) (J2 : gJ) (nc2 ns2 : Nat), nc2 ≤ nc + 2 → ns2 ≤ ns + 50 → Inv m2 I2 J2 → GL b L xs nc2 ns2 (gK0, I2, J2, gP m2, g_n m2) [some (.ref 1000098), some (.ref 0), some (.ref 87), some (.int x3)] 1118 []) : GL b L xs nc ns (gK0, I, J, gP m, g_n m) [some (.ref 1000098), some (.ref 0), some (.ref 87), some (.int x3)] 148 [] := by
  refine GL_aload_n dL_law_148 rfl ?_
  obtain ⟨r1, r2, e1, e2, hr, hI2⟩ := hop m I J hI
  refine GL_callV (d := 0) (mc' := 0) (ms' := 0) (av := []) (rest := []) mt_X9_rake ml_L_13 ⟨by decide, rfl⟩ kf_0 dL_law_149 rfl (by decide) (by omega) (Nat.le_of_ble_eq_true rfl) ?_
  refine c_X9_rake (d := 0) (m := m) I J e1 ?_
  show GL b L xs nc ns (gK0, r1.2, J, gP m, g_n m) [some (.ref 1000098), some (.ref 0), some (.ref 87), some (.int x3)] 152 [.int r1.1]
  refine GL_aload_n dL_law_152 rfl ?_
  refine GL_callV (d := 0) (mc' := 0) (ms' := 0) (av := []) (rest := [.int r1.1]) mt_X10_rake ml_L_17 ⟨by decide, rfl⟩ kf_87 dL_law_153 rfl (by decide) (by omega) (Nat.le_of_ble_eq_true rfl) ?_
  refine c_X10_rake (d := 0) (m := m) r1.2 J e2 ?_
  show GL b L xs nc ns (gK0, r2.2, J, gP m, g_n m) [some (.ref 1000098), some (.ref 0), some (.ref 87), some (.int x3)] 156 [.int r2.1, .int r1.1]
  refine GL_icmp_eq 1118 dL_law_156 (by decide) (fun _ => ?_) (fun h => absurd hr h)
  exact k _ _ _ _ _ (by omega) (by omega) hI2
set_option maxRecDepth 20000 in
set_option maxHeartbeats 2000000 in
theorem law_iron {Inv : Nat → gI → gJ → Prop} {b L : Nat} {xs : Nat → Int32} {nc ns m : Nat} {I : gI} {J : gJ} {x3 : Int32} (hop : op_iron Inv) (hI : Inv m I J) (h1 : vp_in (x3 + 1) L) (h2 : vp_in (x3 + 2) L) (h3 : vp_in (x3 + 3) L) (h4 : vp_in (x3 + 4) L) (h5 : vp_in (x3 + 5) L) (h6 : vp_in (x3 + 6) L) (h7 : vp_in (x3 + 7) L) (hc : nc + 2 ≤ 600000 ∧ ns + 50 ≤ 7302250) (k : ∀ (m2 : Nat) (I2 : gI) (J2 : gJ) (nc2 ns2 : Nat), nc2 ≤ nc + 2 → ns2 ≤ ns + 50 → Inv m2 I2 J2 → GL b L xs nc2 ns2 (gK0, I2, J2, gP m2, g_n m2) [some (.ref 1000098), some (.ref 0), some (.ref 87), some (.int x3)] 1118 []) : GL b L xs nc ns (gK0, I, J, gP m, g_n m) [some (.ref 1000098), some (.ref 0), some (.ref 87), some (.int x3)] 161 [] := by
  refine GL_aload_n dL_law_161 rfl ?_
  refine GL_aload_n dL_law_162 rfl ?_
  refine GL_iload_n dL_law_163 rfl ?_
  refine GL_iconst 1 dL_law_164 (by decide) ?_
  refine GL_iadd dL_law_165 ?_
  refine GL_sld dL_law_166 h1 ?_
  refine GL_aload_n dL_law_167 rfl ?_
  refine GL_iload_n dL_law_168 rfl ?_
  refine GL_iconst 2 dL_law_169 (by decide) ?_
  refine GL_iadd dL_law_170 ?_
  refine GL_sld dL_law_171 h2 ?_
  refine GL_aload_n dL_law_172 rfl ?_
  refine GL_iload_n dL_law_173 rfl ?_
  refine GL_iconst 3 dL_law_174 (by decide) ?_
  refine GL_iadd dL_law_175 ?_
  refine GL_sld dL_law_176 h3 ?_
  refine GL_aload_n dL_law_177 rfl ?_
  refine GL_iload_n dL_law_178 rfl ?_
  refine GL_iconst 4 dL_law_179 (by decide) ?_
  refine GL_iadd dL_law_180 ?_
  refine GL_sld dL_law_181 h4 ?_
  refine GL_aload_n dL_law_182 rfl ?_
  refine GL_iload_n dL_law_183 rfl ?_
  refine GL_iconst 5 dL_law_184 (by decide) ?_
  refine GL_iadd dL_law_185 ?_
  refine GL_sld dL_law_186 h5 ?_
  refine GL_aload_n dL_law_187 rfl ?_
  refine GL_iload_n dL_law_188 rfl ?_
  refine GL_bipush 6 dL_law_189 (by decide) ?_
  refine GL_iadd dL_law_191 ?_
  refine GL_sld dL_law_192 h6 ?_
  refine GL_aload_n dL_law_193 rfl ?_
  refine GL_iload_n dL_law_194 rfl ?_
  refine GL_bipush 7 dL_law_195 (by decide) ?_
  refine GL_iadd dL_law_197 ?_
  refine GL_sld dL_law_198 h7 ?_
  refine GL_if_eq 206 dL_law_199 (by decide) (fun hz => ?_) (fun hz => ?_)
  · refine GL_iconst 0 dL_law_206 (by decide) ?_
    obtain ⟨r1, r2, e1, e2, hr, hI2⟩ := hop m I J (xs (x3 + 1).toNatClampNeg) (xs (x3 + 2).toNatClampNeg) (xs (x3 + 3).toNatClampNeg) (xs (x3 + 4).toNatClampNeg) (xs (x3 + 5).toNatClampNeg) (xs (x3 + 6).toNatClampNeg) 0 hI (by first | exact Or.inl rfl | exact Or.inr rfl)
    refine GL_callV (d := 2) (mc' := 0) (ms' := 0) (av := [.int (xs (x3 + 1).toNatClampNeg), .int (xs (x3 + 2).toNatClampNeg), .int (xs (x3 + 3).toNatClampNeg), .int (xs (x3 + 4).toNatClampNeg), .int (xs (x3 + 5).toNatClampNeg), .int (xs (x3 + 6).toNatClampNeg), .int 0]) (rest := []) mt_X9_iron ml_L_18 ⟨by decide, rfl⟩ kf_0 dL_law_207 rfl (by decide) (by omega) (Nat.le_of_ble_eq_true rfl) ?_
    refine c_X9_iron (d := 0) (m := m) (xs (x3 + 1).toNatClampNeg) (xs (x3 + 2).toNatClampNeg) (xs (x3 + 3).toNatClampNeg) (xs (x3 + 4).toNatClampNeg) (xs (x3 + 5).toNatClampNeg) (xs (x3 + 6).toNatClampNeg) 0 I J e1 ?_
    show GL b L xs nc ns (gK0, r1.2, J, gP m, g_n m) [some (.ref 1000098), some (.ref 0), some (.ref 87), some (.int x3)] 210 [.int r1.1]
    refine GL_aload_n dL_law_210 rfl ?_
    refine GL_aload_n dL_law_211 rfl ?_
    refine GL_iload_n dL_law_212 rfl ?_
    refine GL_iconst 1 dL_law_213 (by decide) ?_
    refine GL_iadd dL_law_214 ?_
    refine GL_sld dL_law_215 h1 ?_
    refine GL_aload_n dL_law_216 rfl ?_
    refine GL_iload_n dL_law_217 rfl ?_
    refine GL_iconst 2 dL_law_218 (by decide) ?_
    refine GL_iadd dL_law_219 ?_
    refine GL_sld dL_law_220 h2 ?_
    refine GL_aload_n dL_law_221 rfl ?_
    refine GL_iload_n dL_law_222 rfl ?_
    refine GL_iconst 3 dL_law_223 (by decide) ?_
    refine GL_iadd dL_law_224 ?_
    refine GL_sld dL_law_225 h3 ?_
    refine GL_aload_n dL_law_226 rfl ?_
    refine GL_iload_n dL_law_227 rfl ?_
    refine GL_iconst 4 dL_law_228 (by decide) ?_
    refine GL_iadd dL_law_229 ?_
    refine GL_sld dL_law_230 h4 ?_
    refine GL_aload_n dL_law_231 rfl ?_
    refine GL_iload_n dL_law_232 rfl ?_
    refine GL_iconst 5 dL_law_233 (by decide) ?_
    refine GL_iadd dL_law_234 ?_
    refine GL_sld dL_law_235 h5 ?_
    refine GL_aload_n dL_law_236 rfl ?_
    refine GL_iload_n dL_law_237 rfl ?_
    refine GL_bipush 6 dL_law_238 (by decide) ?_
    refine GL_iadd dL_law_240 ?_
    refine GL_sld dL_law_241 h6 ?_
    refine GL_aload_n dL_law_242 rfl ?_
    refine GL_iload_n dL_law_243 rfl ?_
    refine GL_bipush 7 dL_law_244 (by decide) ?_
    refine GL_iadd dL_law_246 ?_
    refine GL_sld dL_law_247 h7 ?_
    refine GL_if_eq 255 dL_law_248 (by decide) (fun _ => ?_) (fun h => absurd hz h)
    refine GL_iconst 0 dL_law_255 (by decide) ?_
    refine GL_callV (d := 2) (mc' := 0) (ms' := 0) (av := [.int (xs (x3 + 1).toNatClampNeg), .int (xs (x3 + 2).toNatClampNeg), .int (xs (x3 + 3).toNatClampNeg), .int (xs (x3 + 4).toNatClampNeg), .int (xs (x3 + 5).toNatClampNeg), .int (xs (x3 + 6).toNatClampNeg), .int 0]) (rest := [.int r1.1]) mt_X10_iron ml_L_22 ⟨by decide, rfl⟩ kf_87 dL_law_256 rfl (by decide) (by omega) (Nat.le_of_ble_eq_true rfl) ?_
    refine c_X10_iron (d := 0) (m := m) (xs (x3 + 1).toNatClampNeg) (xs (x3 + 2).toNatClampNeg) (xs (x3 + 3).toNatClampNeg) (xs (x3 + 4).toNatClampNeg) (xs (x3 + 5).toNatClampNeg) (xs (x3 + 6).toNatClampNeg) 0 r1.2 J e2 ?_
    show GL b L xs nc ns (gK0, r2.2, J, gP m, g_n m) [some (.ref 1000098), some (.ref 0), some (.ref 87), some (.int x3)] 259 [.int r2.1, .int r1.1]
    refine GL_icmp_eq 1118 dL_law_259 (by decide) (fun _ => ?_) (fun h => absurd hr h)
    exact k _ _ _ _ _ (by omega) (by omega) hI2
  · refine GL_iconst 1 dL_law_202 (by decide) ?_
    refine GL_goto 207 dL_law_203 (by decide) ?_
    obtain ⟨r1, r2, e1, e2, hr, hI2⟩ := hop m I J (xs (x3 + 1).toNatClampNeg) (xs (x3 + 2).toNatClampNeg) (xs (x3 + 3).toNatClampNeg) (xs (x3 + 4).toNatClampNeg) (xs (x3 + 5).toNatClampNeg) (xs (x3 + 6).toNatClampNeg) 1 hI (by first | exact Or.inl rfl | exact Or.inr rfl)
    refine GL_callV (d := 2) (mc' := 0) (ms' := 0) (av := [.int (xs (x3 + 1).toNatClampNeg), .int (xs (x3 + 2).toNatClampNeg), .int (xs (x3 + 3).toNatClampNeg), .int (xs (x3 + 4).toNatClampNeg), .int (xs (x3 + 5).toNatClampNeg), .int (xs (x3 + 6).toNatClampNeg), .int 1]) (rest := []) mt_X9_iron ml_L_18 ⟨by decide, rfl⟩ kf_0 dL_law_207 rfl (by decide) (by omega) (Nat.le_of_ble_eq_true rfl) ?_
    refine c_X9_iron (d := 0) (m := m) (xs (x3 + 1).toNatClampNeg) (xs (x3 + 2).toNatClampNeg) (xs (x3 + 3).toNatClampNeg) (xs (x3 + 4).toNatClampNeg) (xs (x3 + 5).toNatClampNeg) (xs (x3 + 6).toNatClampNeg) 1 I J e1 ?_
    show GL b L xs nc ns (gK0, r1.2, J, gP m, g_n m) [some (.ref 1000098), some (.ref 0), some (.ref 87), some (.int x3)] 210 [.int r1.1]
    refine GL_aload_n dL_law_210 rfl ?_
    refine GL_aload_n dL_law_211 rfl ?_
    refine GL_iload_n dL_law_212 rfl ?_
    refine GL_iconst 1 dL_law_213 (by decide) ?_
    refine GL_iadd dL_law_214 ?_
    refine GL_sld dL_law_215 h1 ?_
    refine GL_aload_n dL_law_216 rfl ?_
    refine GL_iload_n dL_law_217 rfl ?_
    refine GL_iconst 2 dL_law_218 (by decide) ?_
    refine GL_iadd dL_law_219 ?_
    refine GL_sld dL_law_220 h2 ?_
    refine GL_aload_n dL_law_221 rfl ?_
    refine GL_iload_n dL_law_222 rfl ?_
    refine GL_iconst 3 dL_law_223 (by decide) ?_
    refine GL_iadd dL_law_224 ?_
    refine GL_sld dL_law_225 h3 ?_
    refine GL_aload_n dL_law_226 rfl ?_
    refine GL_iload_n dL_law_227 rfl ?_
    refine GL_iconst 4 dL_law_228 (by decide) ?_
    refine GL_iadd dL_law_229 ?_
    refine GL_sld dL_law_230 h4 ?_
    refine GL_aload_n dL_law_231 rfl ?_
    refine GL_iload_n dL_law_232 rfl ?_
    refine GL_iconst 5 dL_law_233 (by decide) ?_
    refine GL_iadd dL_law_234 ?_
    refine GL_sld dL_law_235 h5 ?_
    refine GL_aload_n dL_law_236 rfl ?_
    refine GL_iload_n dL_law_237 rfl ?_
    refine GL_bipush 6 dL_law_238 (by decide) ?_
    refine GL_iadd dL_law_240 ?_
    refine GL_sld dL_law_241 h6 ?_
    refine GL_aload_n dL_law_242 rfl ?_
    refine GL_iload_n dL_law_243 rfl ?_
    refine GL_bipush 7 dL_law_244 (by decide) ?_
    refine GL_iadd dL_law_246 ?_
    refine GL_sld dL_law_247 h7 ?_
    refine GL_if_eq 255 dL_law_248 (by decide) (fun h => absurd h hz) (fun _ => ?_)
    refine GL_iconst 1 dL_law_251 (by decide) ?_
    refine GL_goto 256 dL_law_252 (by decide) ?_
    refine GL_callV (d := 2) (mc' := 0) (ms' := 0) (av := [.int (xs (x3 + 1).toNatClampNeg), .int (xs (x3 + 2).toNatClampNeg), .int (xs (x3 + 3).toNatClampNeg), .int (xs (x3 + 4).toNatClampNeg), .int (xs (x3 + 5).toNatClampNeg), .int (xs (x3 + 6).toNatClampNeg), .int 1]) (rest := [.int r1.1]) mt_X10_iron ml_L_22 ⟨by decide, rfl⟩ kf_87 dL_law_256 rfl (by decide) (by omega) (Nat.le_of_ble_eq_true rfl) ?_
    refine c_X10_iron (d := 0) (m := m) (xs (x3 + 1).toNatClampNeg) (xs (x3 + 2).toNatClampNeg) (xs (x3 + 3).toNatClampNeg) (xs (x3 + 4).toNatClampNeg) (xs (x3 + 5).toNatClampNeg) (xs (x3 + 6).toNatClampNeg) 1 r1.2 J e2 ?_
    show GL b L xs nc ns (gK0, r2.2, J, gP m, g_n m) [some (.ref 1000098), some (.ref 0), some (.ref 87), some (.int x3)] 259 [.int r2.1, .int r1.1]
    refine GL_icmp_eq 1118 dL_law_259 (by decide) (fun _ => ?_) (fun h => absurd hr h)
    exact k _ _ _ _ _ (by omega) (by omega) hI2
set_option maxRecDepth 20000 in
set_option maxHeartbeats 2000000 in
theorem law_knock {Inv : Nat → gI → gJ → Prop} {b L : Nat} {xs : Nat → Int32} {nc ns m : Nat} {I : gI} {J : gJ} {x3 : Int32} (hop : op_knock Inv) (hI : Inv m I J) (h1 : vp_in (x3 + 1) L) (h2 : vp_in (x3 + 2) L) (h3 : vp_in (x3 + 3) L) (h4 : vp_in (x3 + 4) L) (h5 : vp_in (x3 + 5) L) (h6 : vp_in (x3 + 6) L) (h7 : vp_in (x3 + 7) L) (hc : nc + 2 ≤ 600000 ∧ ns + 50 ≤ 7302250) (k : ∀ (m2 : Nat) (I2 : gI) (J2 : gJ) (nc2 ns2 : Nat), nc2 ≤ nc + 2 → ns2 ≤ ns + 50 → Inv m2 I2 J2 → GL b L xs nc2 ns2 (gK0, I2, J2, gP m2, g_n m2) [some (.ref 1000098), some (.ref 0), some (.ref 87), some (.int x3)] 1118 []) : GL b L xs nc ns (gK0, I, J, gP m, g_n m) [some (.ref 1000098), some (.ref 0), some (.ref 87), some (.int x3)] 264 [] := by
  refine GL_aload_n dL_law_264 rfl ?_
  refine GL_aload_n dL_law_265 rfl ?_
  refine GL_iload_n dL_law_266 rfl ?_
  refine GL_iconst 1 dL_law_267 (by decide) ?_
  refine GL_iadd dL_law_268 ?_
  refine GL_sld dL_law_269 h1 ?_
  refine GL_aload_n dL_law_270 rfl ?_
  refine GL_iload_n dL_law_271 rfl ?_
  refine GL_iconst 2 dL_law_272 (by decide) ?_
  refine GL_iadd dL_law_273 ?_
  refine GL_sld dL_law_274 h2 ?_
  refine GL_aload_n dL_law_275 rfl ?_
  refine GL_iload_n dL_law_276 rfl ?_
  refine GL_iconst 3 dL_law_277 (by decide) ?_
  refine GL_iadd dL_law_278 ?_
  refine GL_sld dL_law_279 h3 ?_
  obtain ⟨r1, r2, e1, e2, hr, hI2⟩ := hop m I J (xs (x3 + 1).toNatClampNeg) (xs (x3 + 2).toNatClampNeg) (xs (x3 + 3).toNatClampNeg) hI
  refine GL_callV (d := 2) (mc' := 0) (ms' := 0) (av := [.int (xs (x3 + 1).toNatClampNeg), .int (xs (x3 + 2).toNatClampNeg), .int (xs (x3 + 3).toNatClampNeg)]) (rest := []) mt_X9_knock ml_L_23 ⟨by decide, rfl⟩ kf_0 dL_law_280 rfl (by decide) (by omega) (Nat.le_of_ble_eq_true rfl) ?_
  refine c_X9_knock (d := 0) (m := m) (xs (x3 + 1).toNatClampNeg) (xs (x3 + 2).toNatClampNeg) (xs (x3 + 3).toNatClampNeg) I J e1 ?_
  show GL b L xs nc ns (gK0, r1.2, J, gP m, g_n m) [some (.ref 1000098), some (.ref 0), some (.ref 87), some (.int x3)] 283 [.int r1.1]
  refine GL_aload_n dL_law_283 rfl ?_
  refine GL_aload_n dL_law_284 rfl ?_
  refine GL_iload_n dL_law_285 rfl ?_
  refine GL_iconst 1 dL_law_286 (by decide) ?_
  refine GL_iadd dL_law_287 ?_
  refine GL_sld dL_law_288 h1 ?_
  refine GL_aload_n dL_law_289 rfl ?_
  refine GL_iload_n dL_law_290 rfl ?_
  refine GL_iconst 2 dL_law_291 (by decide) ?_
  refine GL_iadd dL_law_292 ?_
  refine GL_sld dL_law_293 h2 ?_
  refine GL_aload_n dL_law_294 rfl ?_
  refine GL_iload_n dL_law_295 rfl ?_
  refine GL_iconst 3 dL_law_296 (by decide) ?_
  refine GL_iadd dL_law_297 ?_
  refine GL_sld dL_law_298 h3 ?_
  refine GL_callV (d := 2) (mc' := 0) (ms' := 0) (av := [.int (xs (x3 + 1).toNatClampNeg), .int (xs (x3 + 2).toNatClampNeg), .int (xs (x3 + 3).toNatClampNeg)]) (rest := [.int r1.1]) mt_X10_knock ml_L_27 ⟨by decide, rfl⟩ kf_87 dL_law_299 rfl (by decide) (by omega) (Nat.le_of_ble_eq_true rfl) ?_
  refine c_X10_knock (d := 0) (m := m) (xs (x3 + 1).toNatClampNeg) (xs (x3 + 2).toNatClampNeg) (xs (x3 + 3).toNatClampNeg) r1.2 J e2 ?_
  show GL b L xs nc ns (gK0, r2.2, J, gP m, g_n m) [some (.ref 1000098), some (.ref 0), some (.ref 87), some (.int x3)] 302 [.int r2.1, .int r1.1]
  refine GL_icmp_eq 1118 dL_law_302 (by decide) (fun _ => ?_) (fun h => absurd hr h)
  exact k _ _ _ _ _ (by omega) (by omega) hI2
set_option maxRecDepth 20000 in
set_option maxHeartbeats 2000000 in
theorem law_off {Inv : Nat → gI → gJ → Prop} {b L : Nat} {xs : Nat → Int32} {nc ns m : Nat} {I : gI} {J : gJ} {x3 : Int32} (hop : op_off Inv) (hI : Inv m I J) (h1 : vp_in (x3 + 1) L) (h2 : vp_in (x3 + 2) L) (h3 : vp_in (x3 + 3) L) (h4 : vp_in (x3 + 4) L) (h5 : vp_in (x3 + 5) L) (h6 : vp_in (x3 + 6) L) (h7 : vp_in (x3 + 7) L) (hc : nc + 2 ≤ 600000 ∧ ns + 50 ≤ 7302250) (k : ∀ (m2 : Nat) (I2 : gI) (J2 : gJ) (nc2 ns2 : Nat), nc2 ≤ nc + 2 → ns2 ≤ ns + 50 → Inv m2 I2 J2 → GL b L xs nc2 ns2 (gK0, I2, J2, gP m2, g_n m2) [some (.ref 1000098), some (.ref 0), some (.ref 87), some (.int x3)] 1118 []) : GL b L xs nc ns (gK0, I, J, gP m, g_n m) [some (.ref 1000098), some (.ref 0), some (.ref 87), some (.int x3)] 307 [] := by
  refine GL_aload_n dL_law_307 rfl ?_
  refine GL_aload_n dL_law_308 rfl ?_
  refine GL_iload_n dL_law_309 rfl ?_
  refine GL_iconst 1 dL_law_310 (by decide) ?_
  refine GL_iadd dL_law_311 ?_
  refine GL_sld dL_law_312 h1 ?_
  obtain ⟨r1, r2, e1, e2, hr, hI2⟩ := hop m I J (xs (x3 + 1).toNatClampNeg) hI
  refine GL_callV (d := 2) (mc' := 0) (ms' := 0) (av := [.int (xs (x3 + 1).toNatClampNeg)]) (rest := []) mt_X9_off ml_L_28 ⟨by decide, rfl⟩ kf_0 dL_law_313 rfl (by decide) (by omega) (Nat.le_of_ble_eq_true rfl) ?_
  refine c_X9_off (d := 0) (m := m) (xs (x3 + 1).toNatClampNeg) I J e1 ?_
  show GL b L xs nc ns (gK0, r1.2, J, gP m, g_n m) [some (.ref 1000098), some (.ref 0), some (.ref 87), some (.int x3)] 316 [.int r1.1]
  refine GL_aload_n dL_law_316 rfl ?_
  refine GL_aload_n dL_law_317 rfl ?_
  refine GL_iload_n dL_law_318 rfl ?_
  refine GL_iconst 1 dL_law_319 (by decide) ?_
  refine GL_iadd dL_law_320 ?_
  refine GL_sld dL_law_321 h1 ?_
  refine GL_callV (d := 2) (mc' := 0) (ms' := 0) (av := [.int (xs (x3 + 1).toNatClampNeg)]) (rest := [.int r1.1]) mt_X10_off ml_L_32 ⟨by decide, rfl⟩ kf_87 dL_law_322 rfl (by decide) (by omega) (Nat.le_of_ble_eq_true rfl) ?_
  refine c_X10_off (d := 0) (m := m) (xs (x3 + 1).toNatClampNeg) r1.2 J e2 ?_
  show GL b L xs nc ns (gK0, r2.2, J, gP m, g_n m) [some (.ref 1000098), some (.ref 0), some (.ref 87), some (.int x3)] 325 [.int r2.1, .int r1.1]
  refine GL_icmp_eq 1118 dL_law_325 (by decide) (fun _ => ?_) (fun h => absurd hr h)
  exact k _ _ _ _ _ (by omega) (by omega) hI2
set_option maxRecDepth 20000 in
set_option maxHeartbeats 2000000 in
theorem law_told {Inv : Nat → gI → gJ → Prop} {b L : Nat} {xs : Nat → Int32} {nc ns m : Nat} {I : gI} {J : gJ} {x3 : Int32} (hop : op_told Inv) (hI : Inv m I J) (h1 : vp_in (x3 + 1) L) (h2 : vp_in (x3 + 2) L) (h3 : vp_in (x3 + 3) L) (h4 : vp_in (x3 + 4) L) (h5 : vp_in (x3 + 5) L) (h6 : vp_in (x3 + 6) L) (h7 : vp_in (x3 + 7) L) (hc : nc + 2 ≤ 600000 ∧ ns + 50 ≤ 7302250) (k : ∀ (m2 : Nat) (I2 : gI) (J2 : gJ) (nc2 ns2 : Nat), nc2 ≤ nc + 2 → ns2 ≤ ns + 50 → Inv m2 I2 J2 → GL b L xs nc2 ns2 (gK0, I2, J2, gP m2, g_n m2) [some (.ref 1000098), some (.ref 0), some (.ref 87), some (.int x3)] 1118 []) : GL b L xs nc ns (gK0, I, J, gP m, g_n m) [some (.ref 1000098), some (.ref 0), some (.ref 87), some (.int x3)] 330 [] := by
  refine GL_aload_n dL_law_330 rfl ?_
  refine GL_aload_n dL_law_331 rfl ?_
  refine GL_iload_n dL_law_332 rfl ?_
  refine GL_iconst 1 dL_law_333 (by decide) ?_
  refine GL_iadd dL_law_334 ?_
  refine GL_sld dL_law_335 h1 ?_
  refine GL_aload_n dL_law_336 rfl ?_
  refine GL_iload_n dL_law_337 rfl ?_
  refine GL_iconst 2 dL_law_338 (by decide) ?_
  refine GL_iadd dL_law_339 ?_
  refine GL_sld dL_law_340 h2 ?_
  obtain ⟨r1, r2, e1, e2, hr, hI2⟩ := hop m I J (xs (x3 + 1).toNatClampNeg) (xs (x3 + 2).toNatClampNeg) hI
  refine GL_callV (d := 3) (mc' := 0) (ms' := 0) (av := [.int (xs (x3 + 1).toNatClampNeg), .int (xs (x3 + 2).toNatClampNeg)]) (rest := []) mt_X9_told ml_L_33 ⟨by decide, rfl⟩ kf_0 dL_law_341 rfl (by decide) (by omega) (Nat.le_of_ble_eq_true rfl) ?_
  refine c_X9_told (d := 0) (m := m) (xs (x3 + 1).toNatClampNeg) (xs (x3 + 2).toNatClampNeg) I J e1 ?_
  show GL b L xs nc ns (gK0, I, J, gP m, g_n m) [some (.ref 1000098), some (.ref 0), some (.ref 87), some (.int x3)] 344 [.int r1]
  refine GL_aload_n dL_law_344 rfl ?_
  refine GL_aload_n dL_law_345 rfl ?_
  refine GL_iload_n dL_law_346 rfl ?_
  refine GL_iconst 1 dL_law_347 (by decide) ?_
  refine GL_iadd dL_law_348 ?_
  refine GL_sld dL_law_349 h1 ?_
  refine GL_aload_n dL_law_350 rfl ?_
  refine GL_iload_n dL_law_351 rfl ?_
  refine GL_iconst 2 dL_law_352 (by decide) ?_
  refine GL_iadd dL_law_353 ?_
  refine GL_sld dL_law_354 h2 ?_
  refine GL_callV (d := 3) (mc' := 0) (ms' := 0) (av := [.int (xs (x3 + 1).toNatClampNeg), .int (xs (x3 + 2).toNatClampNeg)]) (rest := [.int r1]) mt_X10_told ml_L_37 ⟨by decide, rfl⟩ kf_87 dL_law_355 rfl (by decide) (by omega) (Nat.le_of_ble_eq_true rfl) ?_
  refine c_X10_told (d := 0) (m := m) (xs (x3 + 1).toNatClampNeg) (xs (x3 + 2).toNatClampNeg) I J e2 ?_
  show GL b L xs nc ns (gK0, I, J, gP m, g_n m) [some (.ref 1000098), some (.ref 0), some (.ref 87), some (.int x3)] 358 [.int r2, .int r1]
  refine GL_icmp_eq 1118 dL_law_358 (by decide) (fun _ => ?_) (fun h => absurd hr h)
  exact k _ _ _ _ _ (by omega) (by omega) hI2
set_option maxRecDepth 20000 in
set_option maxHeartbeats 2000000 in
theorem law_nearer {Inv : Nat → gI → gJ → Prop} {b L : Nat} {xs : Nat → Int32} {nc ns m : Nat} {I : gI} {J : gJ} {x3 : Int32} (hop : op_nearer Inv) (hI : Inv m I J) (h1 : vp_in (x3 + 1) L) (h2 : vp_in (x3 + 2) L) (h3 : vp_in (x3 + 3) L) (h4 : vp_in (x3 + 4) L) (h5 : vp_in (x3 + 5) L) (h6 : vp_in (x3 + 6) L) (h7 : vp_in (x3 + 7) L) (hc : nc + 2 ≤ 600000 ∧ ns + 50 ≤ 7302250) (k : ∀ (m2 : Nat) (I2 : gI) (J2 : gJ) (nc2 ns2 : Nat), nc2 ≤ nc + 2 → ns2 ≤ ns + 50 → Inv m2 I2 J2 → GL b L xs nc2 ns2 (gK0, I2, J2, gP m2, g_n m2) [some (.ref 1000098), some (.ref 0), some (.ref 87), some (.int x3)] 1118 []) : GL b L xs nc ns (gK0, I, J, gP m, g_n m) [some (.ref 1000098), some (.ref 0), some (.ref 87), some (.int x3)] 363 [] := by
  refine GL_aload_n dL_law_363 rfl ?_
  refine GL_aload_n dL_law_364 rfl ?_
  refine GL_iload_n dL_law_365 rfl ?_
  refine GL_iconst 1 dL_law_366 (by decide) ?_
  refine GL_iadd dL_law_367 ?_
  refine GL_sld dL_law_368 h1 ?_
  refine GL_aload_n dL_law_369 rfl ?_
  refine GL_iload_n dL_law_370 rfl ?_
  refine GL_iconst 2 dL_law_371 (by decide) ?_
  refine GL_iadd dL_law_372 ?_
  refine GL_sld dL_law_373 h2 ?_
  refine GL_aload_n dL_law_374 rfl ?_
  refine GL_iload_n dL_law_375 rfl ?_
  refine GL_iconst 3 dL_law_376 (by decide) ?_
  refine GL_iadd dL_law_377 ?_
  refine GL_sld dL_law_378 h3 ?_
  obtain ⟨r1, r2, e1, e2, hr, hI2⟩ := hop m I J (xs (x3 + 1).toNatClampNeg) (xs (x3 + 2).toNatClampNeg) (xs (x3 + 3).toNatClampNeg) hI
  refine GL_callV (d := 3) (mc' := 0) (ms' := 0) (av := [.int (xs (x3 + 1).toNatClampNeg), .int (xs (x3 + 2).toNatClampNeg), .int (xs (x3 + 3).toNatClampNeg)]) (rest := []) mt_X9_nearer ml_L_38 ⟨by decide, rfl⟩ kf_0 dL_law_379 rfl (by decide) (by omega) (Nat.le_of_ble_eq_true rfl) ?_
  refine c_X9_nearer (d := 0) (m := m) (xs (x3 + 1).toNatClampNeg) (xs (x3 + 2).toNatClampNeg) (xs (x3 + 3).toNatClampNeg) I J e1 ?_
  show GL b L xs nc ns (gK0, I, J, gP m, g_n m) [some (.ref 1000098), some (.ref 0), some (.ref 87), some (.int x3)] 382 [.int r1]
  refine GL_aload_n dL_law_382 rfl ?_
  refine GL_aload_n dL_law_383 rfl ?_
  refine GL_iload_n dL_law_384 rfl ?_
  refine GL_iconst 1 dL_law_385 (by decide) ?_
  refine GL_iadd dL_law_386 ?_
  refine GL_sld dL_law_387 h1 ?_
  refine GL_aload_n dL_law_388 rfl ?_
  refine GL_iload_n dL_law_389 rfl ?_
  refine GL_iconst 2 dL_law_390 (by decide) ?_
  refine GL_iadd dL_law_391 ?_
  refine GL_sld dL_law_392 h2 ?_
  refine GL_aload_n dL_law_393 rfl ?_
  refine GL_iload_n dL_law_394 rfl ?_
  refine GL_iconst 3 dL_law_395 (by decide) ?_
  refine GL_iadd dL_law_396 ?_
  refine GL_sld dL_law_397 h3 ?_
  refine GL_callV (d := 3) (mc' := 0) (ms' := 0) (av := [.int (xs (x3 + 1).toNatClampNeg), .int (xs (x3 + 2).toNatClampNeg), .int (xs (x3 + 3).toNatClampNeg)]) (rest := [.int r1]) mt_X10_nearer ml_L_41 ⟨by decide, rfl⟩ kf_87 dL_law_398 rfl (by decide) (by omega) (Nat.le_of_ble_eq_true rfl) ?_
  refine c_X10_nearer (d := 0) (m := m) (xs (x3 + 1).toNatClampNeg) (xs (x3 + 2).toNatClampNeg) (xs (x3 + 3).toNatClampNeg) I J e2 ?_
  show GL b L xs nc ns (gK0, I, J, gP m, g_n m) [some (.ref 1000098), some (.ref 0), some (.ref 87), some (.int x3)] 401 [.int r2, .int r1]
  refine GL_icmp_eq 1118 dL_law_401 (by decide) (fun _ => ?_) (fun h => absurd hr h)
  exact k _ _ _ _ _ (by omega) (by omega) hI2
set_option maxRecDepth 20000 in
set_option maxHeartbeats 2000000 in
theorem law_count {Inv : Nat → gI → gJ → Prop} {b L : Nat} {xs : Nat → Int32} {nc ns m : Nat} {I : gI} {J : gJ} {x3 : Int32} (hop : op_count Inv) (hI : Inv m I J) (h1 : vp_in (x3 + 1) L) (h2 : vp_in (x3 + 2) L) (h3 : vp_in (x3 + 3) L) (h4 : vp_in (x3 + 4) L) (h5 : vp_in (x3 + 5) L) (h6 : vp_in (x3 + 6) L) (h7 : vp_in (x3 + 7) L) (hc : nc + 2 ≤ 600000 ∧ ns + 50 ≤ 7302250) (k : ∀ (m2 : Nat) (I2 : gI) (J2 : gJ) (nc2 ns2 : Nat), nc2 ≤ nc + 2 → ns2 ≤ ns + 50 → Inv m2 I2 J2 → GL b L xs nc2 ns2 (gK0, I2, J2, gP m2, g_n m2) [some (.ref 1000098), some (.ref 0), some (.ref 87), some (.int x3)] 1118 []) : GL b L xs nc ns (gK0, I, J, gP m, g_n m) [some (.ref 1000098), some (.ref 0), some (.ref 87), some (.int x3)] 406 [] := by
  refine GL_aload_n dL_law_406 rfl ?_
  refine GL_aload_n dL_law_407 rfl ?_
  refine GL_iload_n dL_law_408 rfl ?_
  refine GL_iconst 1 dL_law_409 (by decide) ?_
  refine GL_iadd dL_law_410 ?_
  refine GL_sld dL_law_411 h1 ?_
  obtain ⟨r1, r2, e1, e2, hr, hI2⟩ := hop m I J (xs (x3 + 1).toNatClampNeg) hI
  refine GL_callV (d := 5) (mc' := 0) (ms' := 0) (av := [.int (xs (x3 + 1).toNatClampNeg)]) (rest := []) mt_X9_count ml_L_42 ⟨by decide, rfl⟩ kf_0 dL_law_412 rfl (by decide) (by omega) (Nat.le_of_ble_eq_true rfl) ?_
  refine c_X9_count (d := 0) (m := m) (xs (x3 + 1).toNatClampNeg) I J e1 ?_
  show GL b L xs nc ns (gK0, r1.2, J, gP m, g_n m) [some (.ref 1000098), some (.ref 0), some (.ref 87), some (.int x3)] 415 [.int r1.1]
  refine GL_aload_n dL_law_415 rfl ?_
  refine GL_aload_n dL_law_416 rfl ?_
  refine GL_iload_n dL_law_417 rfl ?_
  refine GL_iconst 1 dL_law_418 (by decide) ?_
  refine GL_iadd dL_law_419 ?_
  refine GL_sld dL_law_420 h1 ?_
  refine GL_callV (d := 3) (mc' := 0) (ms' := 0) (av := [.int (xs (x3 + 1).toNatClampNeg)]) (rest := [.int r1.1]) mt_X10_count ml_L_45 ⟨by decide, rfl⟩ kf_87 dL_law_421 rfl (by decide) (by omega) (Nat.le_of_ble_eq_true rfl) ?_
  refine c_X10_count (d := 0) (m := m) (xs (x3 + 1).toNatClampNeg) r1.2 J e2 ?_
  show GL b L xs nc ns (gK0, r2.2, J, gP m, g_n m) [some (.ref 1000098), some (.ref 0), some (.ref 87), some (.int x3)] 424 [.int r2.1, .int r1.1]
  refine GL_icmp_eq 1118 dL_law_424 (by decide) (fun _ => ?_) (fun h => absurd hr h)
  exact k _ _ _ _ _ (by omega) (by omega) hI2
set_option maxRecDepth 20000 in
set_option maxHeartbeats 2000000 in
theorem law_feed {Inv : Nat → gI → gJ → Prop} {b L : Nat} {xs : Nat → Int32} {nc ns m : Nat} {I : gI} {J : gJ} {x3 : Int32} (hop : op_feed Inv) (hI : Inv m I J) (h1 : vp_in (x3 + 1) L) (h2 : vp_in (x3 + 2) L) (h3 : vp_in (x3 + 3) L) (h4 : vp_in (x3 + 4) L) (h5 : vp_in (x3 + 5) L) (h6 : vp_in (x3 + 6) L) (h7 : vp_in (x3 + 7) L) (hc : nc + 2 ≤ 600000 ∧ ns + 50 ≤ 7302250) (k : ∀ (m2 : Nat) (I2 : gI) (J2 : gJ) (nc2 ns2 : Nat), nc2 ≤ nc + 2 → ns2 ≤ ns + 50 → Inv m2 I2 J2 → GL b L xs nc2 ns2 (gK0, I2, J2, gP m2, g_n m2) [some (.ref 1000098), some (.ref 0), some (.ref 87), some (.int x3)] 1118 []) : GL b L xs nc ns (gK0, I, J, gP m, g_n m) [some (.ref 1000098), some (.ref 0), some (.ref 87), some (.int x3)] 429 [] := by
  refine GL_aload_n dL_law_429 rfl ?_
  refine GL_aload_n dL_law_430 rfl ?_
  refine GL_iload_n dL_law_431 rfl ?_
  refine GL_iconst 1 dL_law_432 (by decide) ?_
  refine GL_iadd dL_law_433 ?_
  refine GL_sld dL_law_434 h1 ?_
  refine GL_aload_n dL_law_435 rfl ?_
  refine GL_iload_n dL_law_436 rfl ?_
  refine GL_iconst 2 dL_law_437 (by decide) ?_
  refine GL_iadd dL_law_438 ?_
  refine GL_sld dL_law_439 h2 ?_
  refine GL_i2l dL_law_440 ?_
  refine GL_bipush 32 dL_law_441 (by decide) ?_
  refine GL_lshl dL_law_443 ?_
  refine GL_aload_n dL_law_444 rfl ?_
  refine GL_iload_n dL_law_445 rfl ?_
  refine GL_iconst 3 dL_law_446 (by decide) ?_
  refine GL_iadd dL_law_447 ?_
  refine GL_sld dL_law_448 h3 ?_
  refine GL_i2l dL_law_449 ?_
  refine GL_ldc2 (4294967295) dL_law_450 kl_L_46 ?_
  refine GL_land dL_law_453 ?_
  refine GL_lor dL_law_454 ?_
  obtain ⟨r1, r2, e1, e2, hr, hI2⟩ := hop m I J (xs (x3 + 1).toNatClampNeg) (((Int32.toInt64 (xs (x3 + 2).toNatClampNeg)) <<< ((Int32.toInt64 32) &&& 63)) ||| ((Int32.toInt64 (xs (x3 + 3).toNatClampNeg)) &&& (4294967295 : Int64))) hI
  refine GL_callV (d := 1) (mc' := 0) (ms' := 0) (av := [.int (xs (x3 + 1).toNatClampNeg), .long (((Int32.toInt64 (xs (x3 + 2).toNatClampNeg)) <<< ((Int32.toInt64 32) &&& 63)) ||| ((Int32.toInt64 (xs (x3 + 3).toNatClampNeg)) &&& (4294967295 : Int64)))]) (rest := []) mt_X9_feed ml_L_48 ⟨by decide, rfl⟩ kf_0 dL_law_455 rfl (by decide) (by omega) (Nat.le_of_ble_eq_true rfl) ?_
  refine c_X9_feed (d := 0) (m := m) (xs (x3 + 1).toNatClampNeg) (((Int32.toInt64 (xs (x3 + 2).toNatClampNeg)) <<< ((Int32.toInt64 32) &&& 63)) ||| ((Int32.toInt64 (xs (x3 + 3).toNatClampNeg)) &&& (4294967295 : Int64))) I J e1 ?_
  show GL b L xs nc ns (gK0, r1.2, J, gP m, g_n m) [some (.ref 1000098), some (.ref 0), some (.ref 87), some (.int x3)] 458 [.int r1.1]
  refine GL_aload_n dL_law_458 rfl ?_
  refine GL_aload_n dL_law_459 rfl ?_
  refine GL_iload_n dL_law_460 rfl ?_
  refine GL_iconst 1 dL_law_461 (by decide) ?_
  refine GL_iadd dL_law_462 ?_
  refine GL_sld dL_law_463 h1 ?_
  refine GL_aload_n dL_law_464 rfl ?_
  refine GL_iload_n dL_law_465 rfl ?_
  refine GL_iconst 2 dL_law_466 (by decide) ?_
  refine GL_iadd dL_law_467 ?_
  refine GL_sld dL_law_468 h2 ?_
  refine GL_i2l dL_law_469 ?_
  refine GL_bipush 32 dL_law_470 (by decide) ?_
  refine GL_lshl dL_law_472 ?_
  refine GL_aload_n dL_law_473 rfl ?_
  refine GL_iload_n dL_law_474 rfl ?_
  refine GL_iconst 3 dL_law_475 (by decide) ?_
  refine GL_iadd dL_law_476 ?_
  refine GL_sld dL_law_477 h3 ?_
  refine GL_i2l dL_law_478 ?_
  refine GL_ldc2 (4294967295) dL_law_479 kl_L_46 ?_
  refine GL_land dL_law_482 ?_
  refine GL_lor dL_law_483 ?_
  refine GL_callV (d := 1) (mc' := 0) (ms' := 0) (av := [.int (xs (x3 + 1).toNatClampNeg), .long (((Int32.toInt64 (xs (x3 + 2).toNatClampNeg)) <<< ((Int32.toInt64 32) &&& 63)) ||| ((Int32.toInt64 (xs (x3 + 3).toNatClampNeg)) &&& (4294967295 : Int64)))]) (rest := [.int r1.1]) mt_X10_feed ml_L_52 ⟨by decide, rfl⟩ kf_87 dL_law_484 rfl (by decide) (by omega) (Nat.le_of_ble_eq_true rfl) ?_
  refine c_X10_feed (d := 0) (m := m) (xs (x3 + 1).toNatClampNeg) (((Int32.toInt64 (xs (x3 + 2).toNatClampNeg)) <<< ((Int32.toInt64 32) &&& 63)) ||| ((Int32.toInt64 (xs (x3 + 3).toNatClampNeg)) &&& (4294967295 : Int64))) r1.2 J e2 ?_
  show GL b L xs nc ns (gK0, r2.2, J, gP m, g_n m) [some (.ref 1000098), some (.ref 0), some (.ref 87), some (.int x3)] 487 [.int r2.1, .int r1.1]
  refine GL_icmp_eq 1118 dL_law_487 (by decide) (fun _ => ?_) (fun h => absurd hr h)
  exact k _ _ _ _ _ (by omega) (by omega) hI2
set_option maxRecDepth 20000 in
set_option maxHeartbeats 2000000 in
theorem law_rule {Inv : Nat → gI → gJ → Prop} {b L : Nat} {xs : Nat → Int32} {nc ns m : Nat} {I : gI} {J : gJ} {x3 : Int32} (hop : op_rule Inv) (hI : Inv m I J) (h1 : vp_in (x3 + 1) L) (h2 : vp_in (x3 + 2) L) (h3 : vp_in (x3 + 3) L) (h4 : vp_in (x3 + 4) L) (h5 : vp_in (x3 + 5) L) (h6 : vp_in (x3 + 6) L) (h7 : vp_in (x3 + 7) L) (hc : nc + 2 ≤ 600000 ∧ ns + 50 ≤ 7302250) (k : ∀ (m2 : Nat) (I2 : gI) (J2 : gJ) (nc2 ns2 : Nat), nc2 ≤ nc + 2 → ns2 ≤ ns + 50 → Inv m2 I2 J2 → GL b L xs nc2 ns2 (gK0, I2, J2, gP m2, g_n m2) [some (.ref 1000098), some (.ref 0), some (.ref 87), some (.int x3)] 1118 []) : GL b L xs nc ns (gK0, I, J, gP m, g_n m) [some (.ref 1000098), some (.ref 0), some (.ref 87), some (.int x3)] 492 [] := by
  refine GL_aload_n dL_law_492 rfl ?_
  refine GL_aload_n dL_law_493 rfl ?_
  refine GL_iload_n dL_law_494 rfl ?_
  refine GL_iconst 1 dL_law_495 (by decide) ?_
  refine GL_iadd dL_law_496 ?_
  refine GL_sld dL_law_497 h1 ?_
  obtain ⟨r1, r2, e1, e2, hr, hI2⟩ := hop m I J (xs (x3 + 1).toNatClampNeg) hI
  refine GL_callV (d := 10) (mc' := 0) (ms' := 0) (av := [.int (xs (x3 + 1).toNatClampNeg)]) (rest := []) mt_X9_rule ml_L_53 ⟨by decide, rfl⟩ kf_0 dL_law_498 rfl (by decide) (by omega) (Nat.le_of_ble_eq_true rfl) ?_
  refine c_X9_rule (d := 0) (m := m) (xs (x3 + 1).toNatClampNeg) I J e1 ?_
  show GL b L xs nc ns (gK0, r1.2, J, gP m, g_n m) [some (.ref 1000098), some (.ref 0), some (.ref 87), some (.int x3)] 501 [.int r1.1]
  refine GL_aload_n dL_law_501 rfl ?_
  refine GL_aload_n dL_law_502 rfl ?_
  refine GL_iload_n dL_law_503 rfl ?_
  refine GL_iconst 1 dL_law_504 (by decide) ?_
  refine GL_iadd dL_law_505 ?_
  refine GL_sld dL_law_506 h1 ?_
  refine GL_callV (d := 4) (mc' := 0) (ms' := 0) (av := [.int (xs (x3 + 1).toNatClampNeg)]) (rest := [.int r1.1]) mt_X10_rule ml_L_56 ⟨by decide, rfl⟩ kf_87 dL_law_507 rfl (by decide) (by omega) (Nat.le_of_ble_eq_true rfl) ?_
  refine c_X10_rule (d := 0) (m := m) (xs (x3 + 1).toNatClampNeg) r1.2 J e2 ?_
  show GL b L xs nc ns (gK0, r2.2, J, gP m, g_n m) [some (.ref 1000098), some (.ref 0), some (.ref 87), some (.int x3)] 510 [.int r2.1, .int r1.1]
  refine GL_icmp_eq 1118 dL_law_510 (by decide) (fun _ => ?_) (fun h => absurd hr h)
  exact k _ _ _ _ _ (by omega) (by omega) hI2
set_option maxRecDepth 20000 in
set_option maxHeartbeats 2000000 in
theorem law_fault {Inv : Nat → gI → gJ → Prop} {b L : Nat} {xs : Nat → Int32} {nc ns m : Nat} {I : gI} {J : gJ} {x3 : Int32} (hop : op_fault Inv) (hI : Inv m I J) (h1 : vp_in (x3 + 1) L) (h2 : vp_in (x3 + 2) L) (h3 : vp_in (x3 + 3) L) (h4 : vp_in (x3 + 4) L) (h5 : vp_in (x3 + 5) L) (h6 : vp_in (x3 + 6) L) (h7 : vp_in (x3 + 7) L) (hc : nc + 2 ≤ 600000 ∧ ns + 50 ≤ 7302250) (k : ∀ (m2 : Nat) (I2 : gI) (J2 : gJ) (nc2 ns2 : Nat), nc2 ≤ nc + 2 → ns2 ≤ ns + 50 → Inv m2 I2 J2 → GL b L xs nc2 ns2 (gK0, I2, J2, gP m2, g_n m2) [some (.ref 1000098), some (.ref 0), some (.ref 87), some (.int x3)] 1118 []) : GL b L xs nc ns (gK0, I, J, gP m, g_n m) [some (.ref 1000098), some (.ref 0), some (.ref 87), some (.int x3)] 515 [] := by
  refine GL_aload_n dL_law_515 rfl ?_
  obtain ⟨r1, r2, e1, e2, hr, hI2⟩ := hop m I J hI
  refine GL_callV (d := 0) (mc' := 0) (ms' := 0) (av := []) (rest := []) mt_X9_fault ml_L_57 ⟨by decide, rfl⟩ kf_0 dL_law_516 rfl (by decide) (by omega) (Nat.le_of_ble_eq_true rfl) ?_
  refine c_X9_fault (d := 0) (m := m) I J e1 ?_
  show GL b L xs nc ns (gK0, I, J, gP m, g_n m) [some (.ref 1000098), some (.ref 0), some (.ref 87), some (.int x3)] 519 [.int r1]
  refine GL_aload_n dL_law_519 rfl ?_
  refine GL_callV (d := 0) (mc' := 0) (ms' := 0) (av := []) (rest := [.int r1]) mt_X10_fault ml_L_60 ⟨by decide, rfl⟩ kf_87 dL_law_520 rfl (by decide) (by omega) (Nat.le_of_ble_eq_true rfl) ?_
  refine c_X10_fault (d := 0) (m := m) I J e2 ?_
  show GL b L xs nc ns (gK0, I, J, gP m, g_n m) [some (.ref 1000098), some (.ref 0), some (.ref 87), some (.int x3)] 523 [.int r2, .int r1]
  refine GL_icmp_eq 1118 dL_law_523 (by decide) (fun _ => ?_) (fun h => absurd hr h)
  exact k _ _ _ _ _ (by omega) (by omega) hI2
set_option maxRecDepth 20000 in
set_option maxHeartbeats 2000000 in
theorem law_says {Inv : Nat → gI → gJ → Prop} {b L : Nat} {xs : Nat → Int32} {nc ns m : Nat} {I : gI} {J : gJ} {x3 : Int32} (hop : op_says Inv) (hI : Inv m I J) (h1 : vp_in (x3 + 1) L) (h2 : vp_in (x3 + 2) L) (h3 : vp_in (x3 + 3) L) (h4 : vp_in (x3 + 4) L) (h5 : vp_in (x3 + 5) L) (h6 : vp_in (x3 + 6) L) (h7 : vp_in (x3 + 7) L) (hc : nc + 2 ≤ 600000 ∧ ns + 50 ≤ 7302250) (k : ∀ (m2 : Nat) (I2 : gI) (J2 : gJ) (nc2 ns2 : Nat), nc2 ≤ nc + 2 → ns2 ≤ ns + 50 → Inv m2 I2 J2 → GL b L xs nc2 ns2 (gK0, I2, J2, gP m2, g_n m2) [some (.ref 1000098), some (.ref 0), some (.ref 87), some (.int x3)] 1118 []) : GL b L xs nc ns (gK0, I, J, gP m, g_n m) [some (.ref 1000098), some (.ref 0), some (.ref 87), some (.int x3)] 528 [] := by
  refine GL_aload_n dL_law_528 rfl ?_
  refine GL_aload_n dL_law_529 rfl ?_
  refine GL_iload_n dL_law_530 rfl ?_
  refine GL_iconst 1 dL_law_531 (by decide) ?_
  refine GL_iadd dL_law_532 ?_
  refine GL_sld dL_law_533 h1 ?_
  refine GL_aload_n dL_law_534 rfl ?_
  refine GL_iload_n dL_law_535 rfl ?_
  refine GL_iconst 2 dL_law_536 (by decide) ?_
  refine GL_iadd dL_law_537 ?_
  refine GL_sld dL_law_538 h2 ?_
  obtain ⟨r1, r2, e1, e2, hr, hI2⟩ := hop m I J (xs (x3 + 1).toNatClampNeg) (xs (x3 + 2).toNatClampNeg) hI
  refine GL_callV (d := 2) (mc' := 0) (ms' := 0) (av := [.int (xs (x3 + 1).toNatClampNeg), .int (xs (x3 + 2).toNatClampNeg)]) (rest := []) mt_X9_says ml_L_61 ⟨by decide, rfl⟩ kf_0 dL_law_539 rfl (by decide) (by omega) (Nat.le_of_ble_eq_true rfl) ?_
  refine c_X9_says (d := 0) (m := m) (xs (x3 + 1).toNatClampNeg) (xs (x3 + 2).toNatClampNeg) I J e1 ?_
  show GL b L xs nc ns (gK0, I, J, gP m, g_n m) [some (.ref 1000098), some (.ref 0), some (.ref 87), some (.int x3)] 542 [.int r1]
  refine GL_aload_n dL_law_542 rfl ?_
  refine GL_aload_n dL_law_543 rfl ?_
  refine GL_iload_n dL_law_544 rfl ?_
  refine GL_iconst 1 dL_law_545 (by decide) ?_
  refine GL_iadd dL_law_546 ?_
  refine GL_sld dL_law_547 h1 ?_
  refine GL_aload_n dL_law_548 rfl ?_
  refine GL_iload_n dL_law_549 rfl ?_
  refine GL_iconst 2 dL_law_550 (by decide) ?_
  refine GL_iadd dL_law_551 ?_
  refine GL_sld dL_law_552 h2 ?_
  refine GL_callV (d := 2) (mc' := 0) (ms' := 0) (av := [.int (xs (x3 + 1).toNatClampNeg), .int (xs (x3 + 2).toNatClampNeg)]) (rest := [.int r1]) mt_X10_says ml_L_64 ⟨by decide, rfl⟩ kf_87 dL_law_553 rfl (by decide) (by omega) (Nat.le_of_ble_eq_true rfl) ?_
  refine c_X10_says (d := 0) (m := m) (xs (x3 + 1).toNatClampNeg) (xs (x3 + 2).toNatClampNeg) I J e2 ?_
  show GL b L xs nc ns (gK0, I, J, gP m, g_n m) [some (.ref 1000098), some (.ref 0), some (.ref 87), some (.int x3)] 556 [.int r2, .int r1]
  refine GL_icmp_eq 1118 dL_law_556 (by decide) (fun _ => ?_) (fun h => absurd hr h)
  exact k _ _ _ _ _ (by omega) (by omega) hI2
set_option maxRecDepth 20000 in
set_option maxHeartbeats 2000000 in
theorem law_score {Inv : Nat → gI → gJ → Prop} {b L : Nat} {xs : Nat → Int32} {nc ns m : Nat} {I : gI} {J : gJ} {x3 : Int32} (hop : op_score Inv) (hI : Inv m I J) (h1 : vp_in (x3 + 1) L) (h2 : vp_in (x3 + 2) L) (h3 : vp_in (x3 + 3) L) (h4 : vp_in (x3 + 4) L) (h5 : vp_in (x3 + 5) L) (h6 : vp_in (x3 + 6) L) (h7 : vp_in (x3 + 7) L) (hc : nc + 2 ≤ 600000 ∧ ns + 50 ≤ 7302250) (k : ∀ (m2 : Nat) (I2 : gI) (J2 : gJ) (nc2 ns2 : Nat), nc2 ≤ nc + 2 → ns2 ≤ ns + 50 → Inv m2 I2 J2 → GL b L xs nc2 ns2 (gK0, I2, J2, gP m2, g_n m2) [some (.ref 1000098), some (.ref 0), some (.ref 87), some (.int x3)] 1118 []) : GL b L xs nc ns (gK0, I, J, gP m, g_n m) [some (.ref 1000098), some (.ref 0), some (.ref 87), some (.int x3)] 561 [] := by
  refine GL_aload_n dL_law_561 rfl ?_
  refine GL_aload_n dL_law_562 rfl ?_
  refine GL_iload_n dL_law_563 rfl ?_
  refine GL_iconst 1 dL_law_564 (by decide) ?_
  refine GL_iadd dL_law_565 ?_
  refine GL_sld dL_law_566 h1 ?_
  refine GL_aload_n dL_law_567 rfl ?_
  refine GL_iload_n dL_law_568 rfl ?_
  refine GL_iconst 2 dL_law_569 (by decide) ?_
  refine GL_iadd dL_law_570 ?_
  refine GL_sld dL_law_571 h2 ?_
  obtain ⟨r1, r2, e1, e2, hr, hI2⟩ := hop m I J (xs (x3 + 1).toNatClampNeg) (xs (x3 + 2).toNatClampNeg) hI
  refine GL_callV (d := 6) (mc' := 0) (ms' := 0) (av := [.int (xs (x3 + 1).toNatClampNeg), .int (xs (x3 + 2).toNatClampNeg)]) (rest := []) mt_X9_score ml_L_65 ⟨by decide, rfl⟩ kf_0 dL_law_572 rfl (by decide) (by omega) (Nat.le_of_ble_eq_true rfl) ?_
  refine c_X9_score (d := 0) (m := m) (xs (x3 + 1).toNatClampNeg) (xs (x3 + 2).toNatClampNeg) I J e1 ?_
  show GL b L xs nc ns (gK0, r1.2.1, r1.2.2, gP m, g_n m) [some (.ref 1000098), some (.ref 0), some (.ref 87), some (.int x3)] 575 [.int r1.1]
  refine GL_aload_n dL_law_575 rfl ?_
  refine GL_aload_n dL_law_576 rfl ?_
  refine GL_iload_n dL_law_577 rfl ?_
  refine GL_iconst 1 dL_law_578 (by decide) ?_
  refine GL_iadd dL_law_579 ?_
  refine GL_sld dL_law_580 h1 ?_
  refine GL_aload_n dL_law_581 rfl ?_
  refine GL_iload_n dL_law_582 rfl ?_
  refine GL_iconst 2 dL_law_583 (by decide) ?_
  refine GL_iadd dL_law_584 ?_
  refine GL_sld dL_law_585 h2 ?_
  refine GL_callV (d := 4) (mc' := 0) (ms' := 0) (av := [.int (xs (x3 + 1).toNatClampNeg), .int (xs (x3 + 2).toNatClampNeg)]) (rest := [.int r1.1]) mt_X10_score ml_L_68 ⟨by decide, rfl⟩ kf_87 dL_law_586 rfl (by decide) (by omega) (Nat.le_of_ble_eq_true rfl) ?_
  refine c_X10_score (d := 0) (m := m) (xs (x3 + 1).toNatClampNeg) (xs (x3 + 2).toNatClampNeg) r1.2.1 r1.2.2 e2 ?_
  show GL b L xs nc ns (gK0, r2.2.1, r2.2.2, gP m, g_n m) [some (.ref 1000098), some (.ref 0), some (.ref 87), some (.int x3)] 589 [.int r2.1, .int r1.1]
  refine GL_icmp_eq 1118 dL_law_589 (by decide) (fun _ => ?_) (fun h => absurd hr h)
  exact k _ _ _ _ _ (by omega) (by omega) hI2
set_option maxRecDepth 20000 in
set_option maxHeartbeats 2000000 in
theorem law_measure {Inv : Nat → gI → gJ → Prop} {b L : Nat} {xs : Nat → Int32} {nc ns m : Nat} {I : gI} {J : gJ} {x3 : Int32} (hop : op_measure Inv) (hI : Inv m I J) (h1 : vp_in (x3 + 1) L) (h2 : vp_in (x3 + 2) L) (h3 : vp_in (x3 + 3) L) (h4 : vp_in (x3 + 4) L) (h5 : vp_in (x3 + 5) L) (h6 : vp_in (x3 + 6) L) (h7 : vp_in (x3 + 7) L) (hc : nc + 2 ≤ 600000 ∧ ns + 50 ≤ 7302250) (k : ∀ (m2 : Nat) (I2 : gI) (J2 : gJ) (nc2 ns2 : Nat), nc2 ≤ nc + 2 → ns2 ≤ ns + 50 → Inv m2 I2 J2 → GL b L xs nc2 ns2 (gK0, I2, J2, gP m2, g_n m2) [some (.ref 1000098), some (.ref 0), some (.ref 87), some (.int x3)] 1118 []) : GL b L xs nc ns (gK0, I, J, gP m, g_n m) [some (.ref 1000098), some (.ref 0), some (.ref 87), some (.int x3)] 594 [] := by
  refine GL_aload_n dL_law_594 rfl ?_
  refine GL_aload_n dL_law_595 rfl ?_
  refine GL_iload_n dL_law_596 rfl ?_
  refine GL_iconst 1 dL_law_597 (by decide) ?_
  refine GL_iadd dL_law_598 ?_
  refine GL_sld dL_law_599 h1 ?_
  refine GL_aload_n dL_law_600 rfl ?_
  refine GL_iload_n dL_law_601 rfl ?_
  refine GL_iconst 2 dL_law_602 (by decide) ?_
  refine GL_iadd dL_law_603 ?_
  refine GL_sld dL_law_604 h2 ?_
  refine GL_aload_n dL_law_605 rfl ?_
  refine GL_iload_n dL_law_606 rfl ?_
  refine GL_iconst 3 dL_law_607 (by decide) ?_
  refine GL_iadd dL_law_608 ?_
  refine GL_sld dL_law_609 h3 ?_
  refine GL_aload_n dL_law_610 rfl ?_
  refine GL_iload_n dL_law_611 rfl ?_
  refine GL_iconst 4 dL_law_612 (by decide) ?_
  refine GL_iadd dL_law_613 ?_
  refine GL_sld dL_law_614 h4 ?_
  obtain ⟨r1, r2, e1, e2, hr, hI2⟩ := hop m I J (xs (x3 + 1).toNatClampNeg) (xs (x3 + 2).toNatClampNeg) (xs (x3 + 3).toNatClampNeg) (xs (x3 + 4).toNatClampNeg) hI
  refine GL_callV (d := 2) (mc' := 0) (ms' := 0) (av := [.int (xs (x3 + 1).toNatClampNeg), .int (xs (x3 + 2).toNatClampNeg), .int (xs (x3 + 3).toNatClampNeg), .int (xs (x3 + 4).toNatClampNeg)]) (rest := []) mt_X9_measure ml_L_69 ⟨by decide, rfl⟩ kf_0 dL_law_615 rfl (by decide) (by omega) (Nat.le_of_ble_eq_true rfl) ?_
  refine c_X9_measure (d := 0) (m := m) (xs (x3 + 1).toNatClampNeg) (xs (x3 + 2).toNatClampNeg) (xs (x3 + 3).toNatClampNeg) (xs (x3 + 4).toNatClampNeg) I J e1 ?_
  show GL b L xs nc ns (gK0, r1.2, J, gP m, g_n m) [some (.ref 1000098), some (.ref 0), some (.ref 87), some (.int x3)] 618 [.int r1.1]
  refine GL_aload_n dL_law_618 rfl ?_
  refine GL_aload_n dL_law_619 rfl ?_
  refine GL_iload_n dL_law_620 rfl ?_
  refine GL_iconst 1 dL_law_621 (by decide) ?_
  refine GL_iadd dL_law_622 ?_
  refine GL_sld dL_law_623 h1 ?_
  refine GL_aload_n dL_law_624 rfl ?_
  refine GL_iload_n dL_law_625 rfl ?_
  refine GL_iconst 2 dL_law_626 (by decide) ?_
  refine GL_iadd dL_law_627 ?_
  refine GL_sld dL_law_628 h2 ?_
  refine GL_aload_n dL_law_629 rfl ?_
  refine GL_iload_n dL_law_630 rfl ?_
  refine GL_iconst 3 dL_law_631 (by decide) ?_
  refine GL_iadd dL_law_632 ?_
  refine GL_sld dL_law_633 h3 ?_
  refine GL_aload_n dL_law_634 rfl ?_
  refine GL_iload_n dL_law_635 rfl ?_
  refine GL_iconst 4 dL_law_636 (by decide) ?_
  refine GL_iadd dL_law_637 ?_
  refine GL_sld dL_law_638 h4 ?_
  refine GL_callV (d := 2) (mc' := 0) (ms' := 0) (av := [.int (xs (x3 + 1).toNatClampNeg), .int (xs (x3 + 2).toNatClampNeg), .int (xs (x3 + 3).toNatClampNeg), .int (xs (x3 + 4).toNatClampNeg)]) (rest := [.int r1.1]) mt_X10_measure ml_L_73 ⟨by decide, rfl⟩ kf_87 dL_law_639 rfl (by decide) (by omega) (Nat.le_of_ble_eq_true rfl) ?_
  refine c_X10_measure (d := 0) (m := m) (xs (x3 + 1).toNatClampNeg) (xs (x3 + 2).toNatClampNeg) (xs (x3 + 3).toNatClampNeg) (xs (x3 + 4).toNatClampNeg) r1.2 J e2 ?_
  show GL b L xs nc ns (gK0, r2.2, J, gP m, g_n m) [some (.ref 1000098), some (.ref 0), some (.ref 87), some (.int x3)] 642 [.int r2.1, .int r1.1]
  refine GL_icmp_eq 1118 dL_law_642 (by decide) (fun _ => ?_) (fun h => absurd hr h)
  exact k _ _ _ _ _ (by omega) (by omega) hI2
set_option maxRecDepth 20000 in
set_option maxHeartbeats 2000000 in
theorem law_known {Inv : Nat → gI → gJ → Prop} {b L : Nat} {xs : Nat → Int32} {nc ns m : Nat} {I : gI} {J : gJ} {x3 : Int32} (hop : op_known Inv) (hI : Inv m I J) (h1 : vp_in (x3 + 1) L) (h2 : vp_in (x3 + 2) L) (h3 : vp_in (x3 + 3) L) (h4 : vp_in (x3 + 4) L) (h5 : vp_in (x3 + 5) L) (h6 : vp_in (x3 + 6) L) (h7 : vp_in (x3 + 7) L) (hc : nc + 2 ≤ 600000 ∧ ns + 50 ≤ 7302250) (k : ∀ (m2 : Nat) (I2 : gI) (J2 : gJ) (nc2 ns2 : Nat), nc2 ≤ nc + 2 → ns2 ≤ ns + 50 → Inv m2 I2 J2 → GL b L xs nc2 ns2 (gK0, I2, J2, gP m2, g_n m2) [some (.ref 1000098), some (.ref 0), some (.ref 87), some (.int x3)] 1118 []) : GL b L xs nc ns (gK0, I, J, gP m, g_n m) [some (.ref 1000098), some (.ref 0), some (.ref 87), some (.int x3)] 647 [] := by
  refine GL_aload_n dL_law_647 rfl ?_
  refine GL_aload_n dL_law_648 rfl ?_
  refine GL_iload_n dL_law_649 rfl ?_
  refine GL_iconst 1 dL_law_650 (by decide) ?_
  refine GL_iadd dL_law_651 ?_
  refine GL_sld dL_law_652 h1 ?_
  refine GL_aload_n dL_law_653 rfl ?_
  refine GL_iload_n dL_law_654 rfl ?_
  refine GL_iconst 2 dL_law_655 (by decide) ?_
  refine GL_iadd dL_law_656 ?_
  refine GL_sld dL_law_657 h2 ?_
  obtain ⟨r1, r2, e1, e2, hr, hI2⟩ := hop m I J (xs (x3 + 1).toNatClampNeg) (xs (x3 + 2).toNatClampNeg) hI
  refine GL_callV (d := 3) (mc' := 0) (ms' := 0) (av := [.int (xs (x3 + 1).toNatClampNeg), .int (xs (x3 + 2).toNatClampNeg)]) (rest := []) mt_X9_known ml_L_74 ⟨by decide, rfl⟩ kf_0 dL_law_658 rfl (by decide) (by omega) (Nat.le_of_ble_eq_true rfl) ?_
  refine c_X9_known (d := 0) (m := m) (xs (x3 + 1).toNatClampNeg) (xs (x3 + 2).toNatClampNeg) I J e1 ?_
  show GL b L xs nc ns (gK0, I, J, gP m, g_n m) [some (.ref 1000098), some (.ref 0), some (.ref 87), some (.int x3)] 661 [.int r1]
  refine GL_aload_n dL_law_661 rfl ?_
  refine GL_aload_n dL_law_662 rfl ?_
  refine GL_iload_n dL_law_663 rfl ?_
  refine GL_iconst 1 dL_law_664 (by decide) ?_
  refine GL_iadd dL_law_665 ?_
  refine GL_sld dL_law_666 h1 ?_
  refine GL_aload_n dL_law_667 rfl ?_
  refine GL_iload_n dL_law_668 rfl ?_
  refine GL_iconst 2 dL_law_669 (by decide) ?_
  refine GL_iadd dL_law_670 ?_
  refine GL_sld dL_law_671 h2 ?_
  refine GL_callV (d := 2) (mc' := 0) (ms' := 0) (av := [.int (xs (x3 + 1).toNatClampNeg), .int (xs (x3 + 2).toNatClampNeg)]) (rest := [.int r1]) mt_X10_known ml_L_77 ⟨by decide, rfl⟩ kf_87 dL_law_672 rfl (by decide) (by omega) (Nat.le_of_ble_eq_true rfl) ?_
  refine c_X10_known (d := 0) (m := m) (xs (x3 + 1).toNatClampNeg) (xs (x3 + 2).toNatClampNeg) I J e2 ?_
  show GL b L xs nc ns (gK0, I, J, gP m, g_n m) [some (.ref 1000098), some (.ref 0), some (.ref 87), some (.int x3)] 675 [.int r2, .int r1]
  refine GL_icmp_eq 1118 dL_law_675 (by decide) (fun _ => ?_) (fun h => absurd hr h)
  exact k _ _ _ _ _ (by omega) (by omega) hI2
set_option maxRecDepth 20000 in
set_option maxHeartbeats 2000000 in
theorem law_sure {Inv : Nat → gI → gJ → Prop} {b L : Nat} {xs : Nat → Int32} {nc ns m : Nat} {I : gI} {J : gJ} {x3 : Int32} (hop : op_sure Inv) (hI : Inv m I J) (h1 : vp_in (x3 + 1) L) (h2 : vp_in (x3 + 2) L) (h3 : vp_in (x3 + 3) L) (h4 : vp_in (x3 + 4) L) (h5 : vp_in (x3 + 5) L) (h6 : vp_in (x3 + 6) L) (h7 : vp_in (x3 + 7) L) (hc : nc + 2 ≤ 600000 ∧ ns + 50 ≤ 7302250) (k : ∀ (m2 : Nat) (I2 : gI) (J2 : gJ) (nc2 ns2 : Nat), nc2 ≤ nc + 2 → ns2 ≤ ns + 50 → Inv m2 I2 J2 → GL b L xs nc2 ns2 (gK0, I2, J2, gP m2, g_n m2) [some (.ref 1000098), some (.ref 0), some (.ref 87), some (.int x3)] 1118 []) : GL b L xs nc ns (gK0, I, J, gP m, g_n m) [some (.ref 1000098), some (.ref 0), some (.ref 87), some (.int x3)] 680 [] := by
  refine GL_aload_n dL_law_680 rfl ?_
  refine GL_aload_n dL_law_681 rfl ?_
  refine GL_iload_n dL_law_682 rfl ?_
  refine GL_iconst 1 dL_law_683 (by decide) ?_
  refine GL_iadd dL_law_684 ?_
  refine GL_sld dL_law_685 h1 ?_
  refine GL_aload_n dL_law_686 rfl ?_
  refine GL_iload_n dL_law_687 rfl ?_
  refine GL_iconst 2 dL_law_688 (by decide) ?_
  refine GL_iadd dL_law_689 ?_
  refine GL_sld dL_law_690 h2 ?_
  obtain ⟨r1, r2, e1, e2, hr, hI2⟩ := hop m I J (xs (x3 + 1).toNatClampNeg) (xs (x3 + 2).toNatClampNeg) hI
  refine GL_callV (d := 6) (mc' := 0) (ms' := 0) (av := [.int (xs (x3 + 1).toNatClampNeg), .int (xs (x3 + 2).toNatClampNeg)]) (rest := []) mt_X9_sure ml_L_78 ⟨by decide, rfl⟩ kf_0 dL_law_691 rfl (by decide) (by omega) (Nat.le_of_ble_eq_true rfl) ?_
  refine c_X9_sure (d := 0) (m := m) (xs (x3 + 1).toNatClampNeg) (xs (x3 + 2).toNatClampNeg) I J e1 ?_
  show GL b L xs nc ns (gK0, r1.2.1, r1.2.2, gP m, g_n m) [some (.ref 1000098), some (.ref 0), some (.ref 87), some (.int x3)] 694 [.int r1.1]
  refine GL_aload_n dL_law_694 rfl ?_
  refine GL_aload_n dL_law_695 rfl ?_
  refine GL_iload_n dL_law_696 rfl ?_
  refine GL_iconst 1 dL_law_697 (by decide) ?_
  refine GL_iadd dL_law_698 ?_
  refine GL_sld dL_law_699 h1 ?_
  refine GL_aload_n dL_law_700 rfl ?_
  refine GL_iload_n dL_law_701 rfl ?_
  refine GL_iconst 2 dL_law_702 (by decide) ?_
  refine GL_iadd dL_law_703 ?_
  refine GL_sld dL_law_704 h2 ?_
  refine GL_callV (d := 5) (mc' := 0) (ms' := 0) (av := [.int (xs (x3 + 1).toNatClampNeg), .int (xs (x3 + 2).toNatClampNeg)]) (rest := [.int r1.1]) mt_X10_sure ml_L_81 ⟨by decide, rfl⟩ kf_87 dL_law_705 rfl (by decide) (by omega) (Nat.le_of_ble_eq_true rfl) ?_
  refine c_X10_sure (d := 0) (m := m) (xs (x3 + 1).toNatClampNeg) (xs (x3 + 2).toNatClampNeg) r1.2.1 r1.2.2 e2 ?_
  show GL b L xs nc ns (gK0, r2.2.1, r2.2.2, gP m, g_n m) [some (.ref 1000098), some (.ref 0), some (.ref 87), some (.int x3)] 708 [.int r2.1, .int r1.1]
  refine GL_icmp_eq 1118 dL_law_708 (by decide) (fun _ => ?_) (fun h => absurd hr h)
  exact k _ _ _ _ _ (by omega) (by omega) hI2
set_option maxRecDepth 20000 in
set_option maxHeartbeats 2000000 in
theorem law_act {Inv : Nat → gI → gJ → Prop} {b L : Nat} {xs : Nat → Int32} {nc ns m : Nat} {I : gI} {J : gJ} {x3 : Int32} (hop : op_act Inv) (hI : Inv m I J) (h1 : vp_in (x3 + 1) L) (h2 : vp_in (x3 + 2) L) (h3 : vp_in (x3 + 3) L) (h4 : vp_in (x3 + 4) L) (h5 : vp_in (x3 + 5) L) (h6 : vp_in (x3 + 6) L) (h7 : vp_in (x3 + 7) L) (hc : nc + 2 ≤ 600000 ∧ ns + 50 ≤ 7302250) (k : ∀ (m2 : Nat) (I2 : gI) (J2 : gJ) (nc2 ns2 : Nat), nc2 ≤ nc + 2 → ns2 ≤ ns + 50 → Inv m2 I2 J2 → GL b L xs nc2 ns2 (gK0, I2, J2, gP m2, g_n m2) [some (.ref 1000098), some (.ref 0), some (.ref 87), some (.int x3)] 1118 []) : GL b L xs nc ns (gK0, I, J, gP m, g_n m) [some (.ref 1000098), some (.ref 0), some (.ref 87), some (.int x3)] 713 [] := by
  refine GL_aload_n dL_law_713 rfl ?_
  refine GL_aload_n dL_law_714 rfl ?_
  refine GL_iload_n dL_law_715 rfl ?_
  refine GL_iconst 1 dL_law_716 (by decide) ?_
  refine GL_iadd dL_law_717 ?_
  refine GL_sld dL_law_718 h1 ?_
  refine GL_aload_n dL_law_719 rfl ?_
  refine GL_iload_n dL_law_720 rfl ?_
  refine GL_iconst 2 dL_law_721 (by decide) ?_
  refine GL_iadd dL_law_722 ?_
  refine GL_sld dL_law_723 h2 ?_
  refine GL_aload_n dL_law_724 rfl ?_
  refine GL_iload_n dL_law_725 rfl ?_
  refine GL_iconst 3 dL_law_726 (by decide) ?_
  refine GL_iadd dL_law_727 ?_
  refine GL_sld dL_law_728 h3 ?_
  refine GL_aload_n dL_law_729 rfl ?_
  refine GL_iload_n dL_law_730 rfl ?_
  refine GL_iconst 4 dL_law_731 (by decide) ?_
  refine GL_iadd dL_law_732 ?_
  refine GL_sld dL_law_733 h4 ?_
  refine GL_aload_n dL_law_734 rfl ?_
  refine GL_iload_n dL_law_735 rfl ?_
  refine GL_iconst 5 dL_law_736 (by decide) ?_
  refine GL_iadd dL_law_737 ?_
  refine GL_sld dL_law_738 h5 ?_
  refine GL_aload_n dL_law_739 rfl ?_
  refine GL_iload_n dL_law_740 rfl ?_
  refine GL_bipush 6 dL_law_741 (by decide) ?_
  refine GL_iadd dL_law_743 ?_
  refine GL_sld dL_law_744 h6 ?_
  refine GL_aload_n dL_law_745 rfl ?_
  refine GL_iload_n dL_law_746 rfl ?_
  refine GL_bipush 7 dL_law_747 (by decide) ?_
  refine GL_iadd dL_law_749 ?_
  refine GL_sld dL_law_750 h7 ?_
  obtain ⟨r1, r2, e1, e2, hr, hI2⟩ := hop m I J (xs (x3 + 1).toNatClampNeg) (xs (x3 + 2).toNatClampNeg) (xs (x3 + 3).toNatClampNeg) (xs (x3 + 4).toNatClampNeg) (xs (x3 + 5).toNatClampNeg) (xs (x3 + 6).toNatClampNeg) (xs (x3 + 7).toNatClampNeg) hI
  refine GL_callV (d := 2) (mc' := 0) (ms' := 0) (av := [.int (xs (x3 + 1).toNatClampNeg), .int (xs (x3 + 2).toNatClampNeg), .int (xs (x3 + 3).toNatClampNeg), .int (xs (x3 + 4).toNatClampNeg), .int (xs (x3 + 5).toNatClampNeg), .int (xs (x3 + 6).toNatClampNeg), .int (xs (x3 + 7).toNatClampNeg)]) (rest := []) mt_X9_act ml_L_82 ⟨by decide, rfl⟩ kf_0 dL_law_751 rfl (by decide) (by omega) (Nat.le_of_ble_eq_true rfl) ?_
  refine c_X9_act (d := 0) (m := m) (xs (x3 + 1).toNatClampNeg) (xs (x3 + 2).toNatClampNeg) (xs (x3 + 3).toNatClampNeg) (xs (x3 + 4).toNatClampNeg) (xs (x3 + 5).toNatClampNeg) (xs (x3 + 6).toNatClampNeg) (xs (x3 + 7).toNatClampNeg) I J e1 ?_
  show GL b L xs nc ns (gK0, r1.2, J, gP m, g_n m) [some (.ref 1000098), some (.ref 0), some (.ref 87), some (.int x3)] 754 [.int r1.1]
  refine GL_aload_n dL_law_754 rfl ?_
  refine GL_aload_n dL_law_755 rfl ?_
  refine GL_iload_n dL_law_756 rfl ?_
  refine GL_iconst 1 dL_law_757 (by decide) ?_
  refine GL_iadd dL_law_758 ?_
  refine GL_sld dL_law_759 h1 ?_
  refine GL_aload_n dL_law_760 rfl ?_
  refine GL_iload_n dL_law_761 rfl ?_
  refine GL_iconst 2 dL_law_762 (by decide) ?_
  refine GL_iadd dL_law_763 ?_
  refine GL_sld dL_law_764 h2 ?_
  refine GL_aload_n dL_law_765 rfl ?_
  refine GL_iload_n dL_law_766 rfl ?_
  refine GL_iconst 3 dL_law_767 (by decide) ?_
  refine GL_iadd dL_law_768 ?_
  refine GL_sld dL_law_769 h3 ?_
  refine GL_aload_n dL_law_770 rfl ?_
  refine GL_iload_n dL_law_771 rfl ?_
  refine GL_iconst 4 dL_law_772 (by decide) ?_
  refine GL_iadd dL_law_773 ?_
  refine GL_sld dL_law_774 h4 ?_
  refine GL_aload_n dL_law_775 rfl ?_
  refine GL_iload_n dL_law_776 rfl ?_
  refine GL_iconst 5 dL_law_777 (by decide) ?_
  refine GL_iadd dL_law_778 ?_
  refine GL_sld dL_law_779 h5 ?_
  refine GL_aload_n dL_law_780 rfl ?_
  refine GL_iload_n dL_law_781 rfl ?_
  refine GL_bipush 6 dL_law_782 (by decide) ?_
  refine GL_iadd dL_law_784 ?_
  refine GL_sld dL_law_785 h6 ?_
  refine GL_aload_n dL_law_786 rfl ?_
  refine GL_iload_n dL_law_787 rfl ?_
  refine GL_bipush 7 dL_law_788 (by decide) ?_
  refine GL_iadd dL_law_790 ?_
  refine GL_sld dL_law_791 h7 ?_
  refine GL_callV (d := 2) (mc' := 0) (ms' := 0) (av := [.int (xs (x3 + 1).toNatClampNeg), .int (xs (x3 + 2).toNatClampNeg), .int (xs (x3 + 3).toNatClampNeg), .int (xs (x3 + 4).toNatClampNeg), .int (xs (x3 + 5).toNatClampNeg), .int (xs (x3 + 6).toNatClampNeg), .int (xs (x3 + 7).toNatClampNeg)]) (rest := [.int r1.1]) mt_X10_act ml_L_86 ⟨by decide, rfl⟩ kf_87 dL_law_792 rfl (by decide) (by omega) (Nat.le_of_ble_eq_true rfl) ?_
  refine c_X10_act (d := 0) (m := m) (xs (x3 + 1).toNatClampNeg) (xs (x3 + 2).toNatClampNeg) (xs (x3 + 3).toNatClampNeg) (xs (x3 + 4).toNatClampNeg) (xs (x3 + 5).toNatClampNeg) (xs (x3 + 6).toNatClampNeg) (xs (x3 + 7).toNatClampNeg) r1.2 J e2 ?_
  show GL b L xs nc ns (gK0, r2.2, J, gP m, g_n m) [some (.ref 1000098), some (.ref 0), some (.ref 87), some (.int x3)] 795 [.int r2.1, .int r1.1]
  refine GL_icmp_eq 1118 dL_law_795 (by decide) (fun _ => ?_) (fun h => absurd hr h)
  exact k _ _ _ _ _ (by omega) (by omega) hI2
set_option maxRecDepth 20000 in
set_option maxHeartbeats 2000000 in
theorem law_win {Inv : Nat → gI → gJ → Prop} {b L : Nat} {xs : Nat → Int32} {nc ns m : Nat} {I : gI} {J : gJ} {x3 : Int32} (hop : op_win Inv) (hI : Inv m I J) (h1 : vp_in (x3 + 1) L) (h2 : vp_in (x3 + 2) L) (h3 : vp_in (x3 + 3) L) (h4 : vp_in (x3 + 4) L) (h5 : vp_in (x3 + 5) L) (h6 : vp_in (x3 + 6) L) (h7 : vp_in (x3 + 7) L) (hc : nc + 2 ≤ 600000 ∧ ns + 50 ≤ 7302250) (k : ∀ (m2 : Nat) (I2 : gI) (J2 : gJ) (nc2 ns2 : Nat), nc2 ≤ nc + 2 → ns2 ≤ ns + 50 → Inv m2 I2 J2 → GL b L xs nc2 ns2 (gK0, I2, J2, gP m2, g_n m2) [some (.ref 1000098), some (.ref 0), some (.ref 87), some (.int x3)] 1118 []) : GL b L xs nc ns (gK0, I, J, gP m, g_n m) [some (.ref 1000098), some (.ref 0), some (.ref 87), some (.int x3)] 800 [] := by
  refine GL_aload_n dL_law_800 rfl ?_
  refine GL_aload_n dL_law_801 rfl ?_
  refine GL_iload_n dL_law_802 rfl ?_
  refine GL_iconst 1 dL_law_803 (by decide) ?_
  refine GL_iadd dL_law_804 ?_
  refine GL_sld dL_law_805 h1 ?_
  refine GL_aload_n dL_law_806 rfl ?_
  refine GL_iload_n dL_law_807 rfl ?_
  refine GL_iconst 2 dL_law_808 (by decide) ?_
  refine GL_iadd dL_law_809 ?_
  refine GL_sld dL_law_810 h2 ?_
  refine GL_aload_n dL_law_811 rfl ?_
  refine GL_iload_n dL_law_812 rfl ?_
  refine GL_iconst 3 dL_law_813 (by decide) ?_
  refine GL_iadd dL_law_814 ?_
  refine GL_sld dL_law_815 h3 ?_
  refine GL_aload_n dL_law_816 rfl ?_
  refine GL_iload_n dL_law_817 rfl ?_
  refine GL_iconst 4 dL_law_818 (by decide) ?_
  refine GL_iadd dL_law_819 ?_
  refine GL_sld dL_law_820 h4 ?_
  refine GL_aload_n dL_law_821 rfl ?_
  refine GL_iload_n dL_law_822 rfl ?_
  refine GL_iconst 5 dL_law_823 (by decide) ?_
  refine GL_iadd dL_law_824 ?_
  refine GL_sld dL_law_825 h5 ?_
  obtain ⟨r1, r2, e1, e2, hr, hI2⟩ := hop m I J (xs (x3 + 1).toNatClampNeg) (xs (x3 + 2).toNatClampNeg) (xs (x3 + 3).toNatClampNeg) (xs (x3 + 4).toNatClampNeg) (xs (x3 + 5).toNatClampNeg) hI
  refine GL_callV (d := 4) (mc' := 0) (ms' := 0) (av := [.int (xs (x3 + 1).toNatClampNeg), .int (xs (x3 + 2).toNatClampNeg), .int (xs (x3 + 3).toNatClampNeg), .int (xs (x3 + 4).toNatClampNeg), .int (xs (x3 + 5).toNatClampNeg)]) (rest := []) mt_X9_win ml_L_87 ⟨by decide, rfl⟩ kf_0 dL_law_826 rfl (by decide) (by omega) (Nat.le_of_ble_eq_true rfl) ?_
  refine c_X9_win (d := 0) (m := m) (xs (x3 + 1).toNatClampNeg) (xs (x3 + 2).toNatClampNeg) (xs (x3 + 3).toNatClampNeg) (xs (x3 + 4).toNatClampNeg) (xs (x3 + 5).toNatClampNeg) I J e1 ?_
  show GL b L xs nc ns (gK0, r1.2.1, r1.2.2, gP m, g_n m) [some (.ref 1000098), some (.ref 0), some (.ref 87), some (.int x3)] 829 [.long r1.1]
  refine GL_aload_n dL_law_829 rfl ?_
  refine GL_aload_n dL_law_830 rfl ?_
  refine GL_iload_n dL_law_831 rfl ?_
  refine GL_iconst 1 dL_law_832 (by decide) ?_
  refine GL_iadd dL_law_833 ?_
  refine GL_sld dL_law_834 h1 ?_
  refine GL_aload_n dL_law_835 rfl ?_
  refine GL_iload_n dL_law_836 rfl ?_
  refine GL_iconst 2 dL_law_837 (by decide) ?_
  refine GL_iadd dL_law_838 ?_
  refine GL_sld dL_law_839 h2 ?_
  refine GL_aload_n dL_law_840 rfl ?_
  refine GL_iload_n dL_law_841 rfl ?_
  refine GL_iconst 3 dL_law_842 (by decide) ?_
  refine GL_iadd dL_law_843 ?_
  refine GL_sld dL_law_844 h3 ?_
  refine GL_aload_n dL_law_845 rfl ?_
  refine GL_iload_n dL_law_846 rfl ?_
  refine GL_iconst 4 dL_law_847 (by decide) ?_
  refine GL_iadd dL_law_848 ?_
  refine GL_sld dL_law_849 h4 ?_
  refine GL_aload_n dL_law_850 rfl ?_
  refine GL_iload_n dL_law_851 rfl ?_
  refine GL_iconst 5 dL_law_852 (by decide) ?_
  refine GL_iadd dL_law_853 ?_
  refine GL_sld dL_law_854 h5 ?_
  refine GL_callV (d := 2) (mc' := 0) (ms' := 0) (av := [.int (xs (x3 + 1).toNatClampNeg), .int (xs (x3 + 2).toNatClampNeg), .int (xs (x3 + 3).toNatClampNeg), .int (xs (x3 + 4).toNatClampNeg), .int (xs (x3 + 5).toNatClampNeg)]) (rest := [.long r1.1]) mt_X10_win ml_L_91 ⟨by decide, rfl⟩ kf_87 dL_law_855 rfl (by decide) (by omega) (Nat.le_of_ble_eq_true rfl) ?_
  refine c_X10_win (d := 0) (m := m) (xs (x3 + 1).toNatClampNeg) (xs (x3 + 2).toNatClampNeg) (xs (x3 + 3).toNatClampNeg) (xs (x3 + 4).toNatClampNeg) (xs (x3 + 5).toNatClampNeg) r1.2.1 r1.2.2 e2 ?_
  show GL b L xs nc ns (gK0, r2.2.1, r2.2.2, gP m, g_n m) [some (.ref 1000098), some (.ref 0), some (.ref 87), some (.int x3)] 858 [.long r2.1, .long r1.1]
  refine GL_lcmp dL_law_858 ?_
  rw [hr, g_cmp_self]
  refine GL_if_eq 1118 dL_law_859 (by decide) (fun _ => ?_) (fun h => absurd rfl h)
  exact k _ _ _ _ _ (by omega) (by omega) hI2
set_option maxRecDepth 20000 in
set_option maxHeartbeats 2000000 in
theorem law_match {Inv : Nat → gI → gJ → Prop} {b L : Nat} {xs : Nat → Int32} {nc ns m : Nat} {I : gI} {J : gJ} {x3 : Int32} (hop : op_match Inv) (hI : Inv m I J) (h1 : vp_in (x3 + 1) L) (h2 : vp_in (x3 + 2) L) (h3 : vp_in (x3 + 3) L) (h4 : vp_in (x3 + 4) L) (h5 : vp_in (x3 + 5) L) (h6 : vp_in (x3 + 6) L) (h7 : vp_in (x3 + 7) L) (hc : nc + 2 ≤ 600000 ∧ ns + 50 ≤ 7302250) (k : ∀ (m2 : Nat) (I2 : gI) (J2 : gJ) (nc2 ns2 : Nat), nc2 ≤ nc + 2 → ns2 ≤ ns + 50 → Inv m2 I2 J2 → GL b L xs nc2 ns2 (gK0, I2, J2, gP m2, g_n m2) [some (.ref 1000098), some (.ref 0), some (.ref 87), some (.int x3)] 1118 []) : GL b L xs nc ns (gK0, I, J, gP m, g_n m) [some (.ref 1000098), some (.ref 0), some (.ref 87), some (.int x3)] 864 [] := by
  refine GL_aload_n dL_law_864 rfl ?_
  refine GL_aload_n dL_law_865 rfl ?_
  refine GL_iload_n dL_law_866 rfl ?_
  refine GL_iconst 1 dL_law_867 (by decide) ?_
  refine GL_iadd dL_law_868 ?_
  refine GL_sld dL_law_869 h1 ?_
  refine GL_aload_n dL_law_870 rfl ?_
  refine GL_iload_n dL_law_871 rfl ?_
  refine GL_iconst 2 dL_law_872 (by decide) ?_
  refine GL_iadd dL_law_873 ?_
  refine GL_sld dL_law_874 h2 ?_
  refine GL_aload_n dL_law_875 rfl ?_
  refine GL_iload_n dL_law_876 rfl ?_
  refine GL_iconst 3 dL_law_877 (by decide) ?_
  refine GL_iadd dL_law_878 ?_
  refine GL_sld dL_law_879 h3 ?_
  obtain ⟨hs, r2, e2, hr, hI2⟩ := hop m I J (xs (x3 + 1).toNatClampNeg) (xs (x3 + 2).toNatClampNeg) (xs (x3 + 3).toNatClampNeg) hI
  refine GL_callV (d := 2) (mc' := 2) (ms' := 50) (av := [.int (xs (x3 + 1).toNatClampNeg), .int (xs (x3 + 2).toNatClampNeg), .int (xs (x3 + 3).toNatClampNeg)]) (rest := []) mt_X9_match ml_L_92 ⟨by decide, rfl⟩ kf_0 dL_law_880 rfl (by decide) (by omega) (Nat.le_of_ble_eq_true rfl) ?_
  refine c_X9_match2 (d := 0) (xs (x3 + 1).toNatClampNeg) (xs (x3 + 2).toNatClampNeg) (xs (x3 + 3).toNatClampNeg) I J hs ?_
  show GL b L xs (nc + 2) (ns + 50) (gK0, (f_X9_match m (xs (x3 + 1).toNatClampNeg) (xs (x3 + 2).toNatClampNeg) (xs (x3 + 3).toNatClampNeg) I).2.1, J, gP ((f_X9_match m (xs (x3 + 1).toNatClampNeg) (xs (x3 + 2).toNatClampNeg) (xs (x3 + 3).toNatClampNeg) I).2.2), g_n ((f_X9_match m (xs (x3 + 1).toNatClampNeg) (xs (x3 + 2).toNatClampNeg) (xs (x3 + 3).toNatClampNeg) I).2.2)) [some (.ref 1000098), some (.ref 0), some (.ref 87), some (.int x3)] 883 [.int ((f_X9_match m (xs (x3 + 1).toNatClampNeg) (xs (x3 + 2).toNatClampNeg) (xs (x3 + 3).toNatClampNeg) I).1)]
  refine GL_aload_n dL_law_883 rfl ?_
  refine GL_aload_n dL_law_884 rfl ?_
  refine GL_iload_n dL_law_885 rfl ?_
  refine GL_iconst 1 dL_law_886 (by decide) ?_
  refine GL_iadd dL_law_887 ?_
  refine GL_sld dL_law_888 h1 ?_
  refine GL_aload_n dL_law_889 rfl ?_
  refine GL_iload_n dL_law_890 rfl ?_
  refine GL_iconst 2 dL_law_891 (by decide) ?_
  refine GL_iadd dL_law_892 ?_
  refine GL_sld dL_law_893 h2 ?_
  refine GL_aload_n dL_law_894 rfl ?_
  refine GL_iload_n dL_law_895 rfl ?_
  refine GL_iconst 3 dL_law_896 (by decide) ?_
  refine GL_iadd dL_law_897 ?_
  refine GL_sld dL_law_898 h3 ?_
  refine GL_callV (d := 2) (mc' := 0) (ms' := 0) (av := [.int (xs (x3 + 1).toNatClampNeg), .int (xs (x3 + 2).toNatClampNeg), .int (xs (x3 + 3).toNatClampNeg)]) (rest := [.int ((f_X9_match m (xs (x3 + 1).toNatClampNeg) (xs (x3 + 2).toNatClampNeg) (xs (x3 + 3).toNatClampNeg) I).1)]) mt_X10_match ml_L_95 ⟨by decide, rfl⟩ kf_87 dL_law_899 rfl (by decide) (by omega) (Nat.le_of_ble_eq_true rfl) ?_
  refine c_X10_match (d := 0) (m := (f_X9_match m (xs (x3 + 1).toNatClampNeg) (xs (x3 + 2).toNatClampNeg) (xs (x3 + 3).toNatClampNeg) I).2.2) (xs (x3 + 1).toNatClampNeg) (xs (x3 + 2).toNatClampNeg) (xs (x3 + 3).toNatClampNeg) ((f_X9_match m (xs (x3 + 1).toNatClampNeg) (xs (x3 + 2).toNatClampNeg) (xs (x3 + 3).toNatClampNeg) I).2.1) J e2 ?_
  show GL b L xs (nc + 2) (ns + 50) (gK0, r2.2, J, gP ((f_X9_match m (xs (x3 + 1).toNatClampNeg) (xs (x3 + 2).toNatClampNeg) (xs (x3 + 3).toNatClampNeg) I).2.2), g_n ((f_X9_match m (xs (x3 + 1).toNatClampNeg) (xs (x3 + 2).toNatClampNeg) (xs (x3 + 3).toNatClampNeg) I).2.2)) [some (.ref 1000098), some (.ref 0), some (.ref 87), some (.int x3)] 902 [.int r2.1, .int ((f_X9_match m (xs (x3 + 1).toNatClampNeg) (xs (x3 + 2).toNatClampNeg) (xs (x3 + 3).toNatClampNeg) I).1)]
  refine GL_icmp_eq 1118 dL_law_902 (by decide) (fun _ => ?_) (fun h => absurd hr h)
  exact k _ _ _ _ _ (by omega) (by omega) hI2
set_option maxRecDepth 20000 in
set_option maxHeartbeats 2000000 in
theorem law_end {Inv : Nat → gI → gJ → Prop} {b L : Nat} {xs : Nat → Int32} {nc ns m : Nat} {I : gI} {J : gJ} {x3 : Int32} (hop : op_end Inv) (hI : Inv m I J) (h1 : vp_in (x3 + 1) L) (h2 : vp_in (x3 + 2) L) (h3 : vp_in (x3 + 3) L) (h4 : vp_in (x3 + 4) L) (h5 : vp_in (x3 + 5) L) (h6 : vp_in (x3 + 6) L) (h7 : vp_in (x3 + 7) L) (hc : nc + 2 ≤ 600000 ∧ ns + 50 ≤ 7302250) (k : ∀ (m2 : Nat) (I2 : gI) (J2 : gJ) (nc2 ns2 : Nat), nc2 ≤ nc + 2 → ns2 ≤ ns + 50 → Inv m2 I2 J2 → GL b L xs nc2 ns2 (gK0, I2, J2, gP m2, g_n m2) [some (.ref 1000098), some (.ref 0), some (.ref 87), some (.int x3)] 1118 []) : GL b L xs nc ns (gK0, I, J, gP m, g_n m) [some (.ref 1000098), some (.ref 0), some (.ref 87), some (.int x3)] 907 [] := by
  refine GL_aload_n dL_law_907 rfl ?_
  refine GL_aload_n dL_law_908 rfl ?_
  refine GL_iload_n dL_law_909 rfl ?_
  refine GL_iconst 1 dL_law_910 (by decide) ?_
  refine GL_iadd dL_law_911 ?_
  refine GL_sld dL_law_912 h1 ?_
  refine GL_aload_n dL_law_913 rfl ?_
  refine GL_iload_n dL_law_914 rfl ?_
  refine GL_iconst 2 dL_law_915 (by decide) ?_
  refine GL_iadd dL_law_916 ?_
  refine GL_sld dL_law_917 h2 ?_
  obtain ⟨r1, r2, e1, e2, hr, hI2⟩ := hop m I J (xs (x3 + 1).toNatClampNeg) (xs (x3 + 2).toNatClampNeg) hI
  refine GL_callV (d := 3) (mc' := 0) (ms' := 0) (av := [.int (xs (x3 + 1).toNatClampNeg), .int (xs (x3 + 2).toNatClampNeg)]) (rest := []) mt_X9_end ml_L_96 ⟨by decide, rfl⟩ kf_0 dL_law_918 rfl (by decide) (by omega) (Nat.le_of_ble_eq_true rfl) ?_
  refine c_X9_end (d := 0) (m := m) (xs (x3 + 1).toNatClampNeg) (xs (x3 + 2).toNatClampNeg) I J e1 ?_
  show GL b L xs nc ns (gK0, r1.2, J, gP m, g_n m) [some (.ref 1000098), some (.ref 0), some (.ref 87), some (.int x3)] 921 [.int r1.1]
  refine GL_aload_n dL_law_921 rfl ?_
  refine GL_aload_n dL_law_922 rfl ?_
  refine GL_iload_n dL_law_923 rfl ?_
  refine GL_iconst 1 dL_law_924 (by decide) ?_
  refine GL_iadd dL_law_925 ?_
  refine GL_sld dL_law_926 h1 ?_
  refine GL_aload_n dL_law_927 rfl ?_
  refine GL_iload_n dL_law_928 rfl ?_
  refine GL_iconst 2 dL_law_929 (by decide) ?_
  refine GL_iadd dL_law_930 ?_
  refine GL_sld dL_law_931 h2 ?_
  refine GL_callV (d := 2) (mc' := 0) (ms' := 0) (av := [.int (xs (x3 + 1).toNatClampNeg), .int (xs (x3 + 2).toNatClampNeg)]) (rest := [.int r1.1]) mt_X10_end ml_L_99 ⟨by decide, rfl⟩ kf_87 dL_law_932 rfl (by decide) (by omega) (Nat.le_of_ble_eq_true rfl) ?_
  refine c_X10_end (d := 0) (m := m) (xs (x3 + 1).toNatClampNeg) (xs (x3 + 2).toNatClampNeg) r1.2 J e2 ?_
  show GL b L xs nc ns (gK0, r2.2, J, gP m, g_n m) [some (.ref 1000098), some (.ref 0), some (.ref 87), some (.int x3)] 935 [.int r2.1, .int r1.1]
  refine GL_icmp_eq 1118 dL_law_935 (by decide) (fun _ => ?_) (fun h => absurd hr h)
  exact k _ _ _ _ _ (by omega) (by omega) hI2
set_option maxRecDepth 20000 in
set_option maxHeartbeats 2000000 in
theorem law_mend {Inv : Nat → gI → gJ → Prop} {b L : Nat} {xs : Nat → Int32} {nc ns m : Nat} {I : gI} {J : gJ} {x3 : Int32} (hop : op_mend Inv) (hI : Inv m I J) (h1 : vp_in (x3 + 1) L) (h2 : vp_in (x3 + 2) L) (h3 : vp_in (x3 + 3) L) (h4 : vp_in (x3 + 4) L) (h5 : vp_in (x3 + 5) L) (h6 : vp_in (x3 + 6) L) (h7 : vp_in (x3 + 7) L) (hc : nc + 2 ≤ 600000 ∧ ns + 50 ≤ 7302250) (k : ∀ (m2 : Nat) (I2 : gI) (J2 : gJ) (nc2 ns2 : Nat), nc2 ≤ nc + 2 → ns2 ≤ ns + 50 → Inv m2 I2 J2 → GL b L xs nc2 ns2 (gK0, I2, J2, gP m2, g_n m2) [some (.ref 1000098), some (.ref 0), some (.ref 87), some (.int x3)] 1118 []) : GL b L xs nc ns (gK0, I, J, gP m, g_n m) [some (.ref 1000098), some (.ref 0), some (.ref 87), some (.int x3)] 940 [] := by
  refine GL_aload_n dL_law_940 rfl ?_
  refine GL_aload_n dL_law_941 rfl ?_
  refine GL_iload_n dL_law_942 rfl ?_
  refine GL_iconst 1 dL_law_943 (by decide) ?_
  refine GL_iadd dL_law_944 ?_
  refine GL_sld dL_law_945 h1 ?_
  refine GL_aload_n dL_law_946 rfl ?_
  refine GL_iload_n dL_law_947 rfl ?_
  refine GL_iconst 2 dL_law_948 (by decide) ?_
  refine GL_iadd dL_law_949 ?_
  refine GL_sld dL_law_950 h2 ?_
  refine GL_aload_n dL_law_951 rfl ?_
  refine GL_iload_n dL_law_952 rfl ?_
  refine GL_iconst 3 dL_law_953 (by decide) ?_
  refine GL_iadd dL_law_954 ?_
  refine GL_sld dL_law_955 h3 ?_
  obtain ⟨r1, r2, e1, e2, hr, hI2⟩ := hop m I J (xs (x3 + 1).toNatClampNeg) (xs (x3 + 2).toNatClampNeg) (xs (x3 + 3).toNatClampNeg) hI
  refine GL_callV (d := 2) (mc' := 0) (ms' := 0) (av := [.int (xs (x3 + 1).toNatClampNeg), .int (xs (x3 + 2).toNatClampNeg), .int (xs (x3 + 3).toNatClampNeg)]) (rest := []) mt_X9_mend ml_L_100 ⟨by decide, rfl⟩ kf_0 dL_law_956 rfl (by decide) (by omega) (Nat.le_of_ble_eq_true rfl) ?_
  refine c_X9_mend (d := 0) (m := m) (xs (x3 + 1).toNatClampNeg) (xs (x3 + 2).toNatClampNeg) (xs (x3 + 3).toNatClampNeg) I J e1 ?_
  show GL b L xs nc ns (gK0, r1.2, J, gP m, g_n m) [some (.ref 1000098), some (.ref 0), some (.ref 87), some (.int x3)] 959 [.int r1.1]
  refine GL_aload_n dL_law_959 rfl ?_
  refine GL_aload_n dL_law_960 rfl ?_
  refine GL_iload_n dL_law_961 rfl ?_
  refine GL_iconst 1 dL_law_962 (by decide) ?_
  refine GL_iadd dL_law_963 ?_
  refine GL_sld dL_law_964 h1 ?_
  refine GL_aload_n dL_law_965 rfl ?_
  refine GL_iload_n dL_law_966 rfl ?_
  refine GL_iconst 2 dL_law_967 (by decide) ?_
  refine GL_iadd dL_law_968 ?_
  refine GL_sld dL_law_969 h2 ?_
  refine GL_aload_n dL_law_970 rfl ?_
  refine GL_iload_n dL_law_971 rfl ?_
  refine GL_iconst 3 dL_law_972 (by decide) ?_
  refine GL_iadd dL_law_973 ?_
  refine GL_sld dL_law_974 h3 ?_
  refine GL_callV (d := 2) (mc' := 0) (ms' := 0) (av := [.int (xs (x3 + 1).toNatClampNeg), .int (xs (x3 + 2).toNatClampNeg), .int (xs (x3 + 3).toNatClampNeg)]) (rest := [.int r1.1]) mt_X10_mend ml_L_103 ⟨by decide, rfl⟩ kf_87 dL_law_975 rfl (by decide) (by omega) (Nat.le_of_ble_eq_true rfl) ?_
  refine c_X10_mend (d := 0) (m := m) (xs (x3 + 1).toNatClampNeg) (xs (x3 + 2).toNatClampNeg) (xs (x3 + 3).toNatClampNeg) r1.2 J e2 ?_
  show GL b L xs nc ns (gK0, r2.2, J, gP m, g_n m) [some (.ref 1000098), some (.ref 0), some (.ref 87), some (.int x3)] 978 [.int r2.1, .int r1.1]
  refine GL_icmp_eq 1118 dL_law_978 (by decide) (fun _ => ?_) (fun h => absurd hr h)
  exact k _ _ _ _ _ (by omega) (by omega) hI2
set_option maxRecDepth 20000 in
set_option maxHeartbeats 2000000 in
theorem law_dusk {Inv : Nat → gI → gJ → Prop} {b L : Nat} {xs : Nat → Int32} {nc ns m : Nat} {I : gI} {J : gJ} {x3 : Int32} (hop : op_dusk Inv) (hI : Inv m I J) (h1 : vp_in (x3 + 1) L) (h2 : vp_in (x3 + 2) L) (h3 : vp_in (x3 + 3) L) (h4 : vp_in (x3 + 4) L) (h5 : vp_in (x3 + 5) L) (h6 : vp_in (x3 + 6) L) (h7 : vp_in (x3 + 7) L) (hc : nc + 2 ≤ 600000 ∧ ns + 50 ≤ 7302250) (k : ∀ (m2 : Nat) (I2 : gI) (J2 : gJ) (nc2 ns2 : Nat), nc2 ≤ nc + 2 → ns2 ≤ ns + 50 → Inv m2 I2 J2 → GL b L xs nc2 ns2 (gK0, I2, J2, gP m2, g_n m2) [some (.ref 1000098), some (.ref 0), some (.ref 87), some (.int x3)] 1118 []) : GL b L xs nc ns (gK0, I, J, gP m, g_n m) [some (.ref 1000098), some (.ref 0), some (.ref 87), some (.int x3)] 983 [] := by
  refine GL_aload_n dL_law_983 rfl ?_
  refine GL_aload_n dL_law_984 rfl ?_
  refine GL_iload_n dL_law_985 rfl ?_
  refine GL_iconst 1 dL_law_986 (by decide) ?_
  refine GL_iadd dL_law_987 ?_
  refine GL_sld dL_law_988 h1 ?_
  obtain ⟨r1, r2, e1, e2, hr, hI2⟩ := hop m I J (xs (x3 + 1).toNatClampNeg) hI
  refine GL_callV (d := 3) (mc' := 0) (ms' := 0) (av := [.int (xs (x3 + 1).toNatClampNeg)]) (rest := []) mt_X9_dusk ml_L_104 ⟨by decide, rfl⟩ kf_0 dL_law_989 rfl (by decide) (by omega) (Nat.le_of_ble_eq_true rfl) ?_
  refine c_X9_dusk (d := 0) (m := m) (xs (x3 + 1).toNatClampNeg) I J e1 ?_
  show GL b L xs nc ns (gK0, r1.2, J, gP m, g_n m) [some (.ref 1000098), some (.ref 0), some (.ref 87), some (.int x3)] 992 [.int r1.1]
  refine GL_aload_n dL_law_992 rfl ?_
  refine GL_aload_n dL_law_993 rfl ?_
  refine GL_iload_n dL_law_994 rfl ?_
  refine GL_iconst 1 dL_law_995 (by decide) ?_
  refine GL_iadd dL_law_996 ?_
  refine GL_sld dL_law_997 h1 ?_
  refine GL_callV (d := 2) (mc' := 0) (ms' := 0) (av := [.int (xs (x3 + 1).toNatClampNeg)]) (rest := [.int r1.1]) mt_X10_dusk ml_L_107 ⟨by decide, rfl⟩ kf_87 dL_law_998 rfl (by decide) (by omega) (Nat.le_of_ble_eq_true rfl) ?_
  refine c_X10_dusk (d := 0) (m := m) (xs (x3 + 1).toNatClampNeg) r1.2 J e2 ?_
  show GL b L xs nc ns (gK0, r2.2, J, gP m, g_n m) [some (.ref 1000098), some (.ref 0), some (.ref 87), some (.int x3)] 1001 [.int r2.1, .int r1.1]
  refine GL_icmp_eq 1118 dL_law_1001 (by decide) (fun _ => ?_) (fun h => absurd hr h)
  exact k _ _ _ _ _ (by omega) (by omega) hI2
set_option maxRecDepth 20000 in
set_option maxHeartbeats 2000000 in
theorem law_about {Inv : Nat → gI → gJ → Prop} {b L : Nat} {xs : Nat → Int32} {nc ns m : Nat} {I : gI} {J : gJ} {x3 : Int32} (hop : op_about Inv) (hI : Inv m I J) (h1 : vp_in (x3 + 1) L) (h2 : vp_in (x3 + 2) L) (h3 : vp_in (x3 + 3) L) (h4 : vp_in (x3 + 4) L) (h5 : vp_in (x3 + 5) L) (h6 : vp_in (x3 + 6) L) (h7 : vp_in (x3 + 7) L) (hc : nc + 2 ≤ 600000 ∧ ns + 50 ≤ 7302250) (k : ∀ (m2 : Nat) (I2 : gI) (J2 : gJ) (nc2 ns2 : Nat), nc2 ≤ nc + 2 → ns2 ≤ ns + 50 → Inv m2 I2 J2 → GL b L xs nc2 ns2 (gK0, I2, J2, gP m2, g_n m2) [some (.ref 1000098), some (.ref 0), some (.ref 87), some (.int x3)] 1118 []) : GL b L xs nc ns (gK0, I, J, gP m, g_n m) [some (.ref 1000098), some (.ref 0), some (.ref 87), some (.int x3)] 1006 [] := by
  refine GL_aload_n dL_law_1006 rfl ?_
  refine GL_aload_n dL_law_1007 rfl ?_
  refine GL_iload_n dL_law_1008 rfl ?_
  refine GL_iconst 1 dL_law_1009 (by decide) ?_
  refine GL_iadd dL_law_1010 ?_
  refine GL_sld dL_law_1011 h1 ?_
  refine GL_aload_n dL_law_1012 rfl ?_
  refine GL_iload_n dL_law_1013 rfl ?_
  refine GL_iconst 2 dL_law_1014 (by decide) ?_
  refine GL_iadd dL_law_1015 ?_
  refine GL_sld dL_law_1016 h2 ?_
  obtain ⟨r1, r2, e1, e2, hr, hI2⟩ := hop m I J (xs (x3 + 1).toNatClampNeg) (xs (x3 + 2).toNatClampNeg) hI
  refine GL_callV (d := 3) (mc' := 0) (ms' := 0) (av := [.int (xs (x3 + 1).toNatClampNeg), .int (xs (x3 + 2).toNatClampNeg)]) (rest := []) mt_X9_about ml_L_108 ⟨by decide, rfl⟩ kf_0 dL_law_1017 rfl (by decide) (by omega) (Nat.le_of_ble_eq_true rfl) ?_
  refine c_X9_about (d := 0) (m := m) (xs (x3 + 1).toNatClampNeg) (xs (x3 + 2).toNatClampNeg) I J e1 ?_
  show GL b L xs nc ns (gK0, r1.2, J, gP m, g_n m) [some (.ref 1000098), some (.ref 0), some (.ref 87), some (.int x3)] 1020 [.int r1.1]
  refine GL_aload_n dL_law_1020 rfl ?_
  refine GL_aload_n dL_law_1021 rfl ?_
  refine GL_iload_n dL_law_1022 rfl ?_
  refine GL_iconst 1 dL_law_1023 (by decide) ?_
  refine GL_iadd dL_law_1024 ?_
  refine GL_sld dL_law_1025 h1 ?_
  refine GL_aload_n dL_law_1026 rfl ?_
  refine GL_iload_n dL_law_1027 rfl ?_
  refine GL_iconst 2 dL_law_1028 (by decide) ?_
  refine GL_iadd dL_law_1029 ?_
  refine GL_sld dL_law_1030 h2 ?_
  refine GL_callV (d := 2) (mc' := 0) (ms' := 0) (av := [.int (xs (x3 + 1).toNatClampNeg), .int (xs (x3 + 2).toNatClampNeg)]) (rest := [.int r1.1]) mt_X10_about ml_L_111 ⟨by decide, rfl⟩ kf_87 dL_law_1031 rfl (by decide) (by omega) (Nat.le_of_ble_eq_true rfl) ?_
  refine c_X10_about (d := 0) (m := m) (xs (x3 + 1).toNatClampNeg) (xs (x3 + 2).toNatClampNeg) r1.2 J e2 ?_
  show GL b L xs nc ns (gK0, r2.2, J, gP m, g_n m) [some (.ref 1000098), some (.ref 0), some (.ref 87), some (.int x3)] 1034 [.int r2.1, .int r1.1]
  refine GL_icmp_eq 1118 dL_law_1034 (by decide) (fun _ => ?_) (fun h => absurd hr h)
  exact k _ _ _ _ _ (by omega) (by omega) hI2
set_option maxRecDepth 20000 in
set_option maxHeartbeats 2000000 in
theorem law_standing {Inv : Nat → gI → gJ → Prop} {b L : Nat} {xs : Nat → Int32} {nc ns m : Nat} {I : gI} {J : gJ} {x3 : Int32} (hop : op_standing Inv) (hI : Inv m I J) (h1 : vp_in (x3 + 1) L) (h2 : vp_in (x3 + 2) L) (h3 : vp_in (x3 + 3) L) (h4 : vp_in (x3 + 4) L) (h5 : vp_in (x3 + 5) L) (h6 : vp_in (x3 + 6) L) (h7 : vp_in (x3 + 7) L) (hc : nc + 2 ≤ 600000 ∧ ns + 50 ≤ 7302250) (k : ∀ (m2 : Nat) (I2 : gI) (J2 : gJ) (nc2 ns2 : Nat), nc2 ≤ nc + 2 → ns2 ≤ ns + 50 → Inv m2 I2 J2 → GL b L xs nc2 ns2 (gK0, I2, J2, gP m2, g_n m2) [some (.ref 1000098), some (.ref 0), some (.ref 87), some (.int x3)] 1118 []) : GL b L xs nc ns (gK0, I, J, gP m, g_n m) [some (.ref 1000098), some (.ref 0), some (.ref 87), some (.int x3)] 1039 [] := by
  refine GL_aload_n dL_law_1039 rfl ?_
  refine GL_aload_n dL_law_1040 rfl ?_
  refine GL_iload_n dL_law_1041 rfl ?_
  refine GL_iconst 1 dL_law_1042 (by decide) ?_
  refine GL_iadd dL_law_1043 ?_
  refine GL_sld dL_law_1044 h1 ?_
  refine GL_aload_n dL_law_1045 rfl ?_
  refine GL_iload_n dL_law_1046 rfl ?_
  refine GL_iconst 2 dL_law_1047 (by decide) ?_
  refine GL_iadd dL_law_1048 ?_
  refine GL_sld dL_law_1049 h2 ?_
  obtain ⟨r1, r2, e1, e2, hr, hI2⟩ := hop m I J (xs (x3 + 1).toNatClampNeg) (xs (x3 + 2).toNatClampNeg) hI
  refine GL_callV (d := 4) (mc' := 0) (ms' := 0) (av := [.int (xs (x3 + 1).toNatClampNeg), .int (xs (x3 + 2).toNatClampNeg)]) (rest := []) mt_X9_standing ml_L_112 ⟨by decide, rfl⟩ kf_0 dL_law_1050 rfl (by decide) (by omega) (Nat.le_of_ble_eq_true rfl) ?_
  refine c_X9_standing (d := 0) (m := m) (xs (x3 + 1).toNatClampNeg) (xs (x3 + 2).toNatClampNeg) I J e1 ?_
  show GL b L xs nc ns (gK0, r1.2, J, gP m, g_n m) [some (.ref 1000098), some (.ref 0), some (.ref 87), some (.int x3)] 1053 [.int r1.1]
  refine GL_aload_n dL_law_1053 rfl ?_
  refine GL_aload_n dL_law_1054 rfl ?_
  refine GL_iload_n dL_law_1055 rfl ?_
  refine GL_iconst 1 dL_law_1056 (by decide) ?_
  refine GL_iadd dL_law_1057 ?_
  refine GL_sld dL_law_1058 h1 ?_
  refine GL_aload_n dL_law_1059 rfl ?_
  refine GL_iload_n dL_law_1060 rfl ?_
  refine GL_iconst 2 dL_law_1061 (by decide) ?_
  refine GL_iadd dL_law_1062 ?_
  refine GL_sld dL_law_1063 h2 ?_
  refine GL_callV (d := 6) (mc' := 0) (ms' := 0) (av := [.int (xs (x3 + 1).toNatClampNeg), .int (xs (x3 + 2).toNatClampNeg)]) (rest := [.int r1.1]) mt_X10_standing ml_L_115 ⟨by decide, rfl⟩ kf_87 dL_law_1064 rfl (by decide) (by omega) (Nat.le_of_ble_eq_true rfl) ?_
  refine c_X10_standing (d := 0) (m := m) (xs (x3 + 1).toNatClampNeg) (xs (x3 + 2).toNatClampNeg) r1.2 J e2 ?_
  show GL b L xs nc ns (gK0, r2.2, J, gP m, g_n m) [some (.ref 1000098), some (.ref 0), some (.ref 87), some (.int x3)] 1067 [.int r2.1, .int r1.1]
  refine GL_icmp_eq 1118 dL_law_1067 (by decide) (fun _ => ?_) (fun h => absurd hr h)
  exact k _ _ _ _ _ (by omega) (by omega) hI2
set_option maxRecDepth 20000 in
set_option maxHeartbeats 2000000 in
theorem law_order {Inv : Nat → gI → gJ → Prop} {b L : Nat} {xs : Nat → Int32} {nc ns m : Nat} {I : gI} {J : gJ} {x3 : Int32} (hop : op_order Inv) (hI : Inv m I J) (h1 : vp_in (x3 + 1) L) (h2 : vp_in (x3 + 2) L) (h3 : vp_in (x3 + 3) L) (h4 : vp_in (x3 + 4) L) (h5 : vp_in (x3 + 5) L) (h6 : vp_in (x3 + 6) L) (h7 : vp_in (x3 + 7) L) (hc : nc + 2 ≤ 600000 ∧ ns + 50 ≤ 7302250) (k : ∀ (m2 : Nat) (I2 : gI) (J2 : gJ) (nc2 ns2 : Nat), nc2 ≤ nc + 2 → ns2 ≤ ns + 50 → Inv m2 I2 J2 → GL b L xs nc2 ns2 (gK0, I2, J2, gP m2, g_n m2) [some (.ref 1000098), some (.ref 0), some (.ref 87), some (.int x3)] 1118 []) : GL b L xs nc ns (gK0, I, J, gP m, g_n m) [some (.ref 1000098), some (.ref 0), some (.ref 87), some (.int x3)] 1072 [] := by
  refine GL_aload_n dL_law_1072 rfl ?_
  obtain ⟨r1, r2, e1, e2, hr, hI2⟩ := hop m I J hI
  refine GL_callV (d := 9) (mc' := 0) (ms' := 0) (av := []) (rest := []) mt_X9_order ml_L_116 ⟨by decide, rfl⟩ kf_0 dL_law_1073 rfl (by decide) (by omega) (Nat.le_of_ble_eq_true rfl) ?_
  refine c_X9_order (d := 0) (m := m) I J e1 ?_
  show GL b L xs nc ns (gK0, r1.2, J, gP m, g_n m) [some (.ref 1000098), some (.ref 0), some (.ref 87), some (.int x3)] 1076 [.int r1.1]
  refine GL_aload_n dL_law_1076 rfl ?_
  refine GL_callV (d := 2) (mc' := 0) (ms' := 0) (av := []) (rest := [.int r1.1]) mt_X10_order ml_L_119 ⟨by decide, rfl⟩ kf_87 dL_law_1077 rfl (by decide) (by omega) (Nat.le_of_ble_eq_true rfl) ?_
  refine c_X10_order (d := 0) (m := m) r1.2 J e2 ?_
  show GL b L xs nc ns (gK0, r2.2, J, gP m, g_n m) [some (.ref 1000098), some (.ref 0), some (.ref 87), some (.int x3)] 1080 [.int r2.1, .int r1.1]
  refine GL_icmp_eq 1118 dL_law_1080 (by decide) (fun _ => ?_) (fun h => absurd hr h)
  exact k _ _ _ _ _ (by omega) (by omega) hI2
set_option maxRecDepth 20000 in
set_option maxHeartbeats 2000000 in
theorem law_reach {Inv : Nat → gI → gJ → Prop} {b L : Nat} {xs : Nat → Int32} {nc ns m : Nat} {I : gI} {J : gJ} {x3 : Int32} (hop : op_reach Inv) (hI : Inv m I J) (h1 : vp_in (x3 + 1) L) (h2 : vp_in (x3 + 2) L) (h3 : vp_in (x3 + 3) L) (h4 : vp_in (x3 + 4) L) (h5 : vp_in (x3 + 5) L) (h6 : vp_in (x3 + 6) L) (h7 : vp_in (x3 + 7) L) (hc : nc + 2 ≤ 600000 ∧ ns + 50 ≤ 7302250) (k : ∀ (m2 : Nat) (I2 : gI) (J2 : gJ) (nc2 ns2 : Nat), nc2 ≤ nc + 2 → ns2 ≤ ns + 50 → Inv m2 I2 J2 → GL b L xs nc2 ns2 (gK0, I2, J2, gP m2, g_n m2) [some (.ref 1000098), some (.ref 0), some (.ref 87), some (.int x3)] 1118 []) : GL b L xs nc ns (gK0, I, J, gP m, g_n m) [some (.ref 1000098), some (.ref 0), some (.ref 87), some (.int x3)] 1085 [] := by
  refine GL_aload_n dL_law_1085 rfl ?_
  refine GL_aload_n dL_law_1086 rfl ?_
  refine GL_iload_n dL_law_1087 rfl ?_
  refine GL_iconst 1 dL_law_1088 (by decide) ?_
  refine GL_iadd dL_law_1089 ?_
  refine GL_sld dL_law_1090 h1 ?_
  refine GL_aload_n dL_law_1091 rfl ?_
  refine GL_iload_n dL_law_1092 rfl ?_
  refine GL_iconst 2 dL_law_1093 (by decide) ?_
  refine GL_iadd dL_law_1094 ?_
  refine GL_sld dL_law_1095 h2 ?_
  obtain ⟨r1, r2, e1, e2, hr, hI2⟩ := hop m I J (xs (x3 + 1).toNatClampNeg) (xs (x3 + 2).toNatClampNeg) hI
  refine GL_callV (d := 5) (mc' := 0) (ms' := 0) (av := [.int (xs (x3 + 1).toNatClampNeg), .int (xs (x3 + 2).toNatClampNeg)]) (rest := []) mt_X9_reach ml_L_120 ⟨by decide, rfl⟩ kf_0 dL_law_1096 rfl (by decide) (by omega) (Nat.le_of_ble_eq_true rfl) ?_
  refine c_X9_reach (d := 0) (m := m) (xs (x3 + 1).toNatClampNeg) (xs (x3 + 2).toNatClampNeg) I J e1 ?_
  show GL b L xs nc ns (gK0, r1.2, J, gP m, g_n m) [some (.ref 1000098), some (.ref 0), some (.ref 87), some (.int x3)] 1099 [.int r1.1]
  refine GL_aload_n dL_law_1099 rfl ?_
  refine GL_aload_n dL_law_1100 rfl ?_
  refine GL_iload_n dL_law_1101 rfl ?_
  refine GL_iconst 1 dL_law_1102 (by decide) ?_
  refine GL_iadd dL_law_1103 ?_
  refine GL_sld dL_law_1104 h1 ?_
  refine GL_aload_n dL_law_1105 rfl ?_
  refine GL_iload_n dL_law_1106 rfl ?_
  refine GL_iconst 2 dL_law_1107 (by decide) ?_
  refine GL_iadd dL_law_1108 ?_
  refine GL_sld dL_law_1109 h2 ?_
  refine GL_callV (d := 4) (mc' := 0) (ms' := 0) (av := [.int (xs (x3 + 1).toNatClampNeg), .int (xs (x3 + 2).toNatClampNeg)]) (rest := [.int r1.1]) mt_X10_reach ml_L_123 ⟨by decide, rfl⟩ kf_87 dL_law_1110 rfl (by decide) (by omega) (Nat.le_of_ble_eq_true rfl) ?_
  refine c_X10_reach (d := 0) (m := m) (xs (x3 + 1).toNatClampNeg) (xs (x3 + 2).toNatClampNeg) r1.2 J e2 ?_
  show GL b L xs nc ns (gK0, r2.2, J, gP m, g_n m) [some (.ref 1000098), some (.ref 0), some (.ref 87), some (.int x3)] 1113 [.int r2.1, .int r1.1]
  refine GL_icmp_eq 1118 dL_law_1113 (by decide) (fun _ => ?_) (fun h => absurd hr h)
  exact k _ _ _ _ _ (by omega) (by omega) hI2
