set_option maxHeartbeats 4000000 in
set_option maxRecDepth 100000 in
theorem lc_define {p : Program} {l : Launch} {e : Env} {s : State} {m : MethodId} {below : List Frame} {meth : Method} {c : Code} {b L : Nat} {xs : Nat → Int32} {D : va_G} {ca : Nat → ClassId} {kS : Nat → Nat} {kT : Nat} {A : Nat → Prop} {a0 : pw_A} {c0 : pw_C} (hE : lw_E p s m meth c b L xs D ca kS kT A) {i : Nat} (hi : i + 6 ≤ L) {ad : pw_A} {C : pw_C} (hI : lw_I ca kS kT ad C) {H : Heap} {locs : List Loc} {ls : Array Slot} (hw : pw_H D cls9 A s.heap a0 c0 ad C H locs) (hl : lv_has ls 4 [(3, .int (nI i)), (2, .ref (ad 30 0)), (1, .ref (ad 0 0)), (0, .ref b)]) {cells slots : Nat} (hc : cells + 7 ≤ 600000) (hs : slots + 90 ≤ 7302250) {Q : State → Prop} (kk : ∀ (ad' : pw_A) (C' : pw_C) (H' : Heap) (locs' : List Loc), lw_I ca kS kT ad' C' → ad' 0 0 = ad 0 0 → ad' 30 0 = ad 30 0 → pw_H D cls9 A s.heap a0 c0 ad' C' H' locs' → W p l e ({ frames := 2048, cells := 600000, slots := 7302250, locals := 84000 }) s m #[Value.ref b] below meth c H' locs' (cells + 7) (slots + 90) Q (F0 m 788 ls [])) : W p l e ({ frames := 2048, cells := 600000, slots := 7302250, locals := 84000 }) s m #[Value.ref b] below meth c H locs cells slots Q (F0 m 112 ls []) := by
  obtain ⟨hx, hb, hr, hml, hown, hts0, hX, hbl, hbA, hA, hlocks, hL, hK, hz⟩ := hE
  have hts := wd_hts hts0
  have hZ := z9_ok kS kT
  obtain ⟨C1, cd, mk, td, x, q, sn, r, hJ, f1, f2, f3, f4, hw⟩ := lw_clean hI hw
  obtain ⟨hG, hO, hR, hP⟩ := hJ
  clear hI
  refine lv_aload_n hx hb d_L_law_112 rfl (lv_at hl 2 rfl) ?_
  refine lv_aload_n hx hb d_L_law_113 rfl (lv_at hl 3 rfl) ?_
  refine lv_iload_n hx hb d_L_law_114 rfl (lv_at hl 0 rfl) ?_
  refine lv_iconst (v := 1) hx hb d_L_law_115 (by decide) ?_
  refine lv_iadd hx hb d_L_law_116 ?_
  refine lw_ld hx hb hX hbl hbA hw.2.2.1 hi hL 1 (by decide) (by decide) d_L_law_117 ?_
  refine lv_aload_n hx hb d_L_law_118 rfl (lv_at hl 3 rfl) ?_
  refine lv_iload_n hx hb d_L_law_119 rfl (lv_at hl 0 rfl) ?_
  refine lv_iconst (v := 2) hx hb d_L_law_120 (by decide) ?_
  refine lv_iadd hx hb d_L_law_121 ?_
  refine lw_ld hx hb hX hbl hbA hw.2.2.1 hi hL 2 (by decide) (by decide) d_L_law_122 ?_
  refine lv_aload_n hx hb d_L_law_123 rfl (lv_at hl 3 rfl) ?_
  refine lv_iload_n hx hb d_L_law_124 rfl (lv_at hl 0 rfl) ?_
  refine lv_iconst (v := 3) hx hb d_L_law_125 (by decide) ?_
  refine lv_iadd hx hb d_L_law_126 ?_
  refine lw_ld hx hb hX hbl hbA hw.2.2.1 hi hL 3 (by decide) (by decide) d_L_law_127 ?_
  refine lv_aload_n hx hb d_L_law_128 rfl (lv_at hl 3 rfl) ?_
  refine lv_iload_n hx hb d_L_law_129 rfl (lv_at hl 0 rfl) ?_
  refine lv_iconst (v := 4) hx hb d_L_law_130 (by decide) ?_
  refine lv_iadd hx hb d_L_law_131 ?_
  refine lw_ld hx hb hX hbl hbA hw.2.2.1 hi hL 4 (by decide) (by decide) d_L_law_132 ?_
  refine lv_i2l hx hb d_L_law_133 rfl ?_
  refine lv_bipush (v := 32) hx hb d_L_law_134 (by decide) ?_
  refine lv_lshl hx hb d_L_law_136 rfl ?_
  refine lv_aload_n hx hb d_L_law_137 rfl (lv_at hl 3 rfl) ?_
  refine lv_iload_n hx hb d_L_law_138 rfl (lv_at hl 0 rfl) ?_
  refine lv_iconst (v := 5) hx hb d_L_law_139 (by decide) ?_
  refine lv_iadd hx hb d_L_law_140 ?_
  refine lw_ld hx hb hX hbl hbA hw.2.2.1 hi hL 5 (by decide) (by decide) d_L_law_141 ?_
  refine lv_i2l hx hb d_L_law_142 rfl ?_
  refine lv_ldc2 (v := 4294967295) hx hb hown (hts _ wd_1071) d_L_law_143 ?_
  refine lv_land hx hb d_L_law_146 ?_
  refine lv_lor hx hb d_L_law_147 ?_
  refine pw_calli (va_runV (As := [.int (xs (i + 1)), .int (xs (i + 2)), .int (xs (i + 3)), .long ((((xs (i + 4)).toInt64) <<< ((32 : Int32).toInt64 &&& 63)) ||| (((xs (i + 5)).toInt64) &&& 4294967295))]) (rest := []) ⟨hx, hb, hml, hown, hts0⟩ (k_G_define hG hP.g.gd.wd f1 (xs (i + 1)) (xs (i + 2)) (xs (i + 3)) ((((xs (i + 4)).toInt64) <<< ((32 : Int32).toInt64 &&& 63)) ||| (((xs (i + 5)).toInt64) &&& 4294967295)) _) (cwV 4 hts0 (wd_V wd_156 wd_153 wd_154 wd_155 wd_53) rfl rfl rfl (by decide +kernel) ⟨(by (try dsimp only); omega), (by (try dsimp only); omega)⟩) (pw_preV hZ hw hA hK hz rfl hG.1 rfl) rfl rfl hl.1 rfl (lv_room (Nat.le_of_ble_eq_true rfl)) d_L_law_148 ⟨(by (try dsimp only); omega), (by (try dsimp only); omega)⟩) hw hA (fun r_3 ad_1 C_2 H locs hp hw => ?_)
  obtain ⟨⟨hG, hf, -⟩, er⟩ := hp
  obtain ⟨hO, hR⟩ := lf_1 hO hR (fun x y h => hf.1 x y (by omega) (by omega)) (fun x y h => hf.2 x y (by omega))
  have h00 : ad_1 0 0 = ad 0 0 := hf.2 0 0 (by omega)
  have h30 : ad_1 30 0 = ad 30 0 := hf.2 30 0 (by omega)
  have hl : lv_has ls 4 [(3, .int (nI i)), (2, .ref (ad_1 30 0)), (1, .ref (ad_1 0 0)), (0, .ref b)] := by rw [h30, h00]; exact hl
  refine lv_aload_n hx hb d_L_law_151 rfl (lv_at hl 1 rfl) ?_
  refine lv_aload_n hx hb d_L_law_152 rfl (lv_at hl 3 rfl) ?_
  refine lv_iload_n hx hb d_L_law_153 rfl (lv_at hl 0 rfl) ?_
  refine lv_iconst (v := 1) hx hb d_L_law_154 (by decide) ?_
  refine lv_iadd hx hb d_L_law_155 ?_
  refine lw_ld hx hb hX hbl hbA hw.2.2.1 hi hL 1 (by decide) (by decide) d_L_law_156 ?_
  refine lv_aload_n hx hb d_L_law_157 rfl (lv_at hl 3 rfl) ?_
  refine lv_iload_n hx hb d_L_law_158 rfl (lv_at hl 0 rfl) ?_
  refine lv_iconst (v := 2) hx hb d_L_law_159 (by decide) ?_
  refine lv_iadd hx hb d_L_law_160 ?_
  refine lw_ld hx hb hX hbl hbA hw.2.2.1 hi hL 2 (by decide) (by decide) d_L_law_161 ?_
  refine lv_aload_n hx hb d_L_law_162 rfl (lv_at hl 3 rfl) ?_
  refine lv_iload_n hx hb d_L_law_163 rfl (lv_at hl 0 rfl) ?_
  refine lv_iconst (v := 3) hx hb d_L_law_164 (by decide) ?_
  refine lv_iadd hx hb d_L_law_165 ?_
  refine lw_ld hx hb hX hbl hbA hw.2.2.1 hi hL 3 (by decide) (by decide) d_L_law_166 ?_
  refine lv_aload_n hx hb d_L_law_167 rfl (lv_at hl 3 rfl) ?_
  refine lv_iload_n hx hb d_L_law_168 rfl (lv_at hl 0 rfl) ?_
  refine lv_iconst (v := 4) hx hb d_L_law_169 (by decide) ?_
  refine lv_iadd hx hb d_L_law_170 ?_
  refine lw_ld hx hb hX hbl hbA hw.2.2.1 hi hL 4 (by decide) (by decide) d_L_law_171 ?_
  refine lv_i2l hx hb d_L_law_172 rfl ?_
  refine lv_bipush (v := 32) hx hb d_L_law_173 (by decide) ?_
  refine lv_lshl hx hb d_L_law_175 rfl ?_
  refine lv_aload_n hx hb d_L_law_176 rfl (lv_at hl 3 rfl) ?_
  refine lv_iload_n hx hb d_L_law_177 rfl (lv_at hl 0 rfl) ?_
  refine lv_iconst (v := 5) hx hb d_L_law_178 (by decide) ?_
  refine lv_iadd hx hb d_L_law_179 ?_
  refine lw_ld hx hb hX hbl hbA hw.2.2.1 hi hL 5 (by decide) (by decide) d_L_law_180 ?_
  refine lv_i2l hx hb d_L_law_181 rfl ?_
  refine lv_ldc2 (v := 4294967295) hx hb hown (hts _ wd_1071) d_L_law_182 ?_
  refine lv_land hx hb d_L_law_185 ?_
  refine lv_lor hx hb d_L_law_186 ?_
  obtain ⟨r9, hM, hP⟩ := p_define hP (xs (i + 1)) (xs (i + 2)) (xs (i + 3)) ((((xs (i + 4)).toInt64) <<< ((32 : Int32).toInt64 &&& 63)) ||| (((xs (i + 5)).toInt64) &&& 4294967295))
  refine pw_calli (va_runV (As := [.int (xs (i + 1)), .int (xs (i + 2)), .int (xs (i + 3)), .long ((((xs (i + 4)).toInt64) <<< ((32 : Int32).toInt64 &&& 63)) ||| (((xs (i + 5)).toInt64) &&& 4294967295))]) (rest := [.int r_3]) ⟨hx, hb, hml, hown, hts0⟩ (k_M_define hR hM _) (cwV 4 hts0 (wd_V wd_852 wd_849 wd_850 wd_851 wd_56) rfl rfl rfl (by decide +kernel) ⟨(by (try dsimp only); omega), (by (try dsimp only); omega)⟩) (pw_preV hZ hw hA hK hz rfl (rm_at.o hR) rfl) rfl rfl hl.1 rfl (lv_room (Nat.le_of_ble_eq_true rfl)) d_L_law_187 ⟨(by (try dsimp only); omega), (by (try dsimp only); omega)⟩) hw hA (fun r_6 ad_4 C_5 H locs hp hw => ?_)
  obtain ⟨⟨hae, hR, hf⟩, er2⟩ := hp
  rw [hae] at hw
  obtain ⟨hG, hO⟩ := lf_M hG hO hf
  refine lv_icmp_eq (tgt := 788) hx hb d_L_law_190 (by decide) (fun c9 => ?_) (fun c9 => ?_)
  · refine W.widen (k := cells + 7) (n := slots + 90) (by omega) (by omega) ?_
    exact kk ad_1 C_5 H locs ⟨_, _, _, _, _, _, _, hG, hO, hR, hP⟩ h00 h30 hw
  · exact absurd (er.trans er2.symm) c9
set_option maxHeartbeats 4000000 in
set_option maxRecDepth 100000 in
theorem lc_field {p : Program} {l : Launch} {e : Env} {s : State} {m : MethodId} {below : List Frame} {meth : Method} {c : Code} {b L : Nat} {xs : Nat → Int32} {D : va_G} {ca : Nat → ClassId} {kS : Nat → Nat} {kT : Nat} {A : Nat → Prop} {a0 : pw_A} {c0 : pw_C} (hE : lw_E p s m meth c b L xs D ca kS kT A) {i : Nat} (hi : i + 6 ≤ L) {ad : pw_A} {C : pw_C} (hI : lw_I ca kS kT ad C) {H : Heap} {locs : List Loc} {ls : Array Slot} (hw : pw_H D cls9 A s.heap a0 c0 ad C H locs) (hl : lv_has ls 4 [(3, .int (nI i)), (2, .ref (ad 30 0)), (1, .ref (ad 0 0)), (0, .ref b)]) {cells slots : Nat} (hc : cells + 7 ≤ 600000) (hs : slots + 90 ≤ 7302250) {Q : State → Prop} (kk : ∀ (ad' : pw_A) (C' : pw_C) (H' : Heap) (locs' : List Loc), lw_I ca kS kT ad' C' → ad' 0 0 = ad 0 0 → ad' 30 0 = ad 30 0 → pw_H D cls9 A s.heap a0 c0 ad' C' H' locs' → W p l e ({ frames := 2048, cells := 600000, slots := 7302250, locals := 84000 }) s m #[Value.ref b] below meth c H' locs' (cells + 7) (slots + 90) Q (F0 m 788 ls [])) : W p l e ({ frames := 2048, cells := 600000, slots := 7302250, locals := 84000 }) s m #[Value.ref b] below meth c H locs cells slots Q (F0 m 195 ls []) := by
  obtain ⟨hx, hb, hr, hml, hown, hts0, hX, hbl, hbA, hA, hlocks, hL, hK, hz⟩ := hE
  have hts := wd_hts hts0
  have hZ := z9_ok kS kT
  obtain ⟨C1, cd, mk, td, x, q, sn, r, hJ, f1, f2, f3, f4, hw⟩ := lw_clean hI hw
  obtain ⟨hG, hO, hR, hP⟩ := hJ
  clear hI
  refine lv_aload_n hx hb d_L_law_195 rfl (lv_at hl 2 rfl) ?_
  refine lv_aload_n hx hb d_L_law_196 rfl (lv_at hl 3 rfl) ?_
  refine lv_iload_n hx hb d_L_law_197 rfl (lv_at hl 0 rfl) ?_
  refine lv_iconst (v := 1) hx hb d_L_law_198 (by decide) ?_
  refine lv_iadd hx hb d_L_law_199 ?_
  refine lw_ld hx hb hX hbl hbA hw.2.2.1 hi hL 1 (by decide) (by decide) d_L_law_200 ?_
  refine lv_aload_n hx hb d_L_law_201 rfl (lv_at hl 3 rfl) ?_
  refine lv_iload_n hx hb d_L_law_202 rfl (lv_at hl 0 rfl) ?_
  refine lv_iconst (v := 2) hx hb d_L_law_203 (by decide) ?_
  refine lv_iadd hx hb d_L_law_204 ?_
  refine lw_ld hx hb hX hbl hbA hw.2.2.1 hi hL 2 (by decide) (by decide) d_L_law_205 ?_
  refine lv_aload_n hx hb d_L_law_206 rfl (lv_at hl 3 rfl) ?_
  refine lv_iload_n hx hb d_L_law_207 rfl (lv_at hl 0 rfl) ?_
  refine lv_iconst (v := 3) hx hb d_L_law_208 (by decide) ?_
  refine lv_iadd hx hb d_L_law_209 ?_
  refine lw_ld hx hb hX hbl hbA hw.2.2.1 hi hL 3 (by decide) (by decide) d_L_law_210 ?_
  refine lv_aload_n hx hb d_L_law_211 rfl (lv_at hl 3 rfl) ?_
  refine lv_iload_n hx hb d_L_law_212 rfl (lv_at hl 0 rfl) ?_
  refine lv_iconst (v := 4) hx hb d_L_law_213 (by decide) ?_
  refine lv_iadd hx hb d_L_law_214 ?_
  refine lw_ld hx hb hX hbl hbA hw.2.2.1 hi hL 4 (by decide) (by decide) d_L_law_215 ?_
  refine lw_bool hx hb d_L_law_216 d_L_law_219 d_L_law_220 d_L_law_223 ?_
  refine pw_calli (va_runV (As := [.int (xs (i + 1)), .int (xs (i + 2)), .int (xs (i + 3)), .int (if xs (i + 4) = 0 then 0 else 1)]) (rest := []) ⟨hx, hb, hml, hown, hts0⟩ (k_G_field hG hP.g.gd.wd hP.g.gd.sf (xs (i + 1)) (xs (i + 2)) (xs (i + 3)) (if xs (i + 4) = 0 then 0 else 1) _) (cwV 4 hts0 (wd_V wd_341 wd_338 wd_339 wd_340 wd_53) rfl rfl rfl (by decide +kernel) ⟨(by (try dsimp only); omega), (by (try dsimp only); omega)⟩) (pw_preV hZ hw hA hK hz rfl hG.1 rfl) rfl rfl hl.1 rfl (lv_room (Nat.le_of_ble_eq_true rfl)) d_L_law_224 ⟨(by (try dsimp only); omega), (by (try dsimp only); omega)⟩) hw hA (fun r_3 ad_1 C_2 H locs hp hw => ?_)
  obtain ⟨⟨hae, hG, hf⟩, er⟩ := hp
  rw [hae] at hw
  obtain ⟨hO, hR⟩ := lf_1 hO hR (fun x y h => hf x y (by omega)) (fun _ _ _ => rfl)
  have h00 : ad 0 0 = ad 0 0 := rfl
  have h30 : ad 30 0 = ad 30 0 := rfl
  refine lv_aload_n hx hb d_L_law_227 rfl (lv_at hl 1 rfl) ?_
  refine lv_aload_n hx hb d_L_law_228 rfl (lv_at hl 3 rfl) ?_
  refine lv_iload_n hx hb d_L_law_229 rfl (lv_at hl 0 rfl) ?_
  refine lv_iconst (v := 1) hx hb d_L_law_230 (by decide) ?_
  refine lv_iadd hx hb d_L_law_231 ?_
  refine lw_ld hx hb hX hbl hbA hw.2.2.1 hi hL 1 (by decide) (by decide) d_L_law_232 ?_
  refine lv_aload_n hx hb d_L_law_233 rfl (lv_at hl 3 rfl) ?_
  refine lv_iload_n hx hb d_L_law_234 rfl (lv_at hl 0 rfl) ?_
  refine lv_iconst (v := 2) hx hb d_L_law_235 (by decide) ?_
  refine lv_iadd hx hb d_L_law_236 ?_
  refine lw_ld hx hb hX hbl hbA hw.2.2.1 hi hL 2 (by decide) (by decide) d_L_law_237 ?_
  refine lv_aload_n hx hb d_L_law_238 rfl (lv_at hl 3 rfl) ?_
  refine lv_iload_n hx hb d_L_law_239 rfl (lv_at hl 0 rfl) ?_
  refine lv_iconst (v := 3) hx hb d_L_law_240 (by decide) ?_
  refine lv_iadd hx hb d_L_law_241 ?_
  refine lw_ld hx hb hX hbl hbA hw.2.2.1 hi hL 3 (by decide) (by decide) d_L_law_242 ?_
  refine lv_aload_n hx hb d_L_law_243 rfl (lv_at hl 3 rfl) ?_
  refine lv_iload_n hx hb d_L_law_244 rfl (lv_at hl 0 rfl) ?_
  refine lv_iconst (v := 4) hx hb d_L_law_245 (by decide) ?_
  refine lv_iadd hx hb d_L_law_246 ?_
  refine lw_ld hx hb hX hbl hbA hw.2.2.1 hi hL 4 (by decide) (by decide) d_L_law_247 ?_
  refine lw_bool hx hb d_L_law_248 d_L_law_251 d_L_law_252 d_L_law_255 ?_
  obtain ⟨r9, hM, hP⟩ := p_field hP (xs (i + 1)) (xs (i + 2)) (xs (i + 3)) (if xs (i + 4) = 0 then 0 else 1) (lw_b01 _)
  refine pw_calli (va_runV (As := [.int (xs (i + 1)), .int (xs (i + 2)), .int (xs (i + 3)), .int (if xs (i + 4) = 0 then 0 else 1)]) (rest := [.int r_3]) ⟨hx, hb, hml, hown, hts0⟩ (k_M_field hR hM _) (cwV 4 hts0 (wd_V wd_864 wd_861 wd_862 wd_863 wd_56) rfl rfl rfl (by decide +kernel) ⟨(by (try dsimp only); omega), (by (try dsimp only); omega)⟩) (pw_preV hZ hw hA hK hz rfl (rm_at.o hR) rfl) rfl rfl hl.1 rfl (lv_room (Nat.le_of_ble_eq_true rfl)) d_L_law_256 ⟨(by (try dsimp only); omega), (by (try dsimp only); omega)⟩) hw hA (fun r_6 ad_4 C_5 H locs hp hw => ?_)
  obtain ⟨⟨hae, hR, hf⟩, er2⟩ := hp
  rw [hae] at hw
  obtain ⟨hG, hO⟩ := lf_M hG hO hf
  refine lv_icmp_eq (tgt := 788) hx hb d_L_law_259 (by decide) (fun c9 => ?_) (fun c9 => ?_)
  · refine W.widen (k := cells + 7) (n := slots + 90) (by omega) (by omega) ?_
    exact kk ad C_5 H locs ⟨_, _, _, _, _, _, _, hG, hO, hR, hP⟩ h00 h30 hw
  · exact absurd (er.trans er2.symm) c9
set_option maxHeartbeats 4000000 in
set_option maxRecDepth 100000 in
theorem lc_instance {p : Program} {l : Launch} {e : Env} {s : State} {m : MethodId} {below : List Frame} {meth : Method} {c : Code} {b L : Nat} {xs : Nat → Int32} {D : va_G} {ca : Nat → ClassId} {kS : Nat → Nat} {kT : Nat} {A : Nat → Prop} {a0 : pw_A} {c0 : pw_C} (hE : lw_E p s m meth c b L xs D ca kS kT A) {i : Nat} (hi : i + 6 ≤ L) {ad : pw_A} {C : pw_C} (hI : lw_I ca kS kT ad C) {H : Heap} {locs : List Loc} {ls : Array Slot} (hw : pw_H D cls9 A s.heap a0 c0 ad C H locs) (hl : lv_has ls 4 [(3, .int (nI i)), (2, .ref (ad 30 0)), (1, .ref (ad 0 0)), (0, .ref b)]) {cells slots : Nat} (hc : cells + 7 ≤ 600000) (hs : slots + 90 ≤ 7302250) {Q : State → Prop} (kk : ∀ (ad' : pw_A) (C' : pw_C) (H' : Heap) (locs' : List Loc), lw_I ca kS kT ad' C' → ad' 0 0 = ad 0 0 → ad' 30 0 = ad 30 0 → pw_H D cls9 A s.heap a0 c0 ad' C' H' locs' → W p l e ({ frames := 2048, cells := 600000, slots := 7302250, locals := 84000 }) s m #[Value.ref b] below meth c H' locs' (cells + 7) (slots + 90) Q (F0 m 788 ls [])) : W p l e ({ frames := 2048, cells := 600000, slots := 7302250, locals := 84000 }) s m #[Value.ref b] below meth c H locs cells slots Q (F0 m 264 ls []) := by
  obtain ⟨hx, hb, hr, hml, hown, hts0, hX, hbl, hbA, hA, hlocks, hL, hK, hz⟩ := hE
  have hts := wd_hts hts0
  have hZ := z9_ok kS kT
  obtain ⟨C1, cd, mk, td, x, q, sn, r, hJ, f1, f2, f3, f4, hw⟩ := lw_clean hI hw
  obtain ⟨hG, hO, hR, hP⟩ := hJ
  clear hI
  refine lv_aload_n hx hb d_L_law_264 rfl (lv_at hl 2 rfl) ?_
  refine lv_aload_n hx hb d_L_law_265 rfl (lv_at hl 3 rfl) ?_
  refine lv_iload_n hx hb d_L_law_266 rfl (lv_at hl 0 rfl) ?_
  refine lv_iconst (v := 1) hx hb d_L_law_267 (by decide) ?_
  refine lv_iadd hx hb d_L_law_268 ?_
  refine lw_ld hx hb hX hbl hbA hw.2.2.1 hi hL 1 (by decide) (by decide) d_L_law_269 ?_
  refine pw_calli (va_runV (As := [.int (xs (i + 1))]) (rest := []) ⟨hx, hb, hml, hown, hts0⟩ (k_G_instance hG f2 hP.g.gd.wd (xs (i + 1)) _) (cwV 1 hts0 (wd_V wd_361 wd_358 wd_359 wd_360 wd_53) rfl rfl rfl (by decide +kernel) ⟨(by (try dsimp only); omega), (by (try dsimp only); omega)⟩) (pw_preV hZ hw hA hK hz rfl hG.1 rfl) rfl rfl hl.1 rfl (lv_room (Nat.le_of_ble_eq_true rfl)) d_L_law_270 ⟨(by (try dsimp only); omega), (by (try dsimp only); omega)⟩) hw hA (fun r_3 ad_1 C_2 H locs hp hw => ?_)
  obtain ⟨⟨hG, hf⟩, er⟩ := hp
  obtain ⟨hO, hR⟩ := lf_1 hO hR (fun x y h => hf.1 x y (by omega) (by omega) (by omega) (by omega)) (fun x y h => hf.2 x y (by omega))
  have h00 : ad_1 0 0 = ad 0 0 := hf.2 0 0 (by omega)
  have h30 : ad_1 30 0 = ad 30 0 := hf.2 30 0 (by omega)
  have hl : lv_has ls 4 [(3, .int (nI i)), (2, .ref (ad_1 30 0)), (1, .ref (ad_1 0 0)), (0, .ref b)] := by rw [h30, h00]; exact hl
  refine lv_aload_n hx hb d_L_law_273 rfl (lv_at hl 1 rfl) ?_
  refine lv_aload_n hx hb d_L_law_274 rfl (lv_at hl 3 rfl) ?_
  refine lv_iload_n hx hb d_L_law_275 rfl (lv_at hl 0 rfl) ?_
  refine lv_iconst (v := 1) hx hb d_L_law_276 (by decide) ?_
  refine lv_iadd hx hb d_L_law_277 ?_
  refine lw_ld hx hb hX hbl hbA hw.2.2.1 hi hL 1 (by decide) (by decide) d_L_law_278 ?_
  obtain ⟨r9, hM, hP⟩ := p_instance hP (xs (i + 1))
  refine pw_calli (va_runV (As := [.int (xs (i + 1))]) (rest := [.int r_3]) ⟨hx, hb, hml, hown, hts0⟩ (k_M_instance hR hM _) (cwV 1 hts0 (wd_V wd_872 wd_869 wd_870 wd_871 wd_56) rfl rfl rfl (by decide +kernel) ⟨(by (try dsimp only); omega), (by (try dsimp only); omega)⟩) (pw_preV hZ hw hA hK hz rfl (rm_at.o hR) rfl) rfl rfl hl.1 rfl (lv_room (Nat.le_of_ble_eq_true rfl)) d_L_law_279 ⟨(by (try dsimp only); omega), (by (try dsimp only); omega)⟩) hw hA (fun r_6 ad_4 C_5 H locs hp hw => ?_)
  obtain ⟨⟨hae, hR, hf⟩, er2⟩ := hp
  rw [hae] at hw
  obtain ⟨hG, hO⟩ := lf_M hG hO hf
  refine lv_icmp_eq (tgt := 788) hx hb d_L_law_282 (by decide) (fun c9 => ?_) (fun c9 => ?_)
  · refine W.widen (k := cells + 7) (n := slots + 90) (by omega) (by omega) ?_
    exact kk ad_1 C_5 H locs ⟨_, _, _, _, _, _, _, hG, hO, hR, hP⟩ h00 h30 hw
  · exact absurd (er.trans er2.symm) c9
set_option maxHeartbeats 4000000 in
set_option maxRecDepth 100000 in
theorem lc_text {p : Program} {l : Launch} {e : Env} {s : State} {m : MethodId} {below : List Frame} {meth : Method} {c : Code} {b L : Nat} {xs : Nat → Int32} {D : va_G} {ca : Nat → ClassId} {kS : Nat → Nat} {kT : Nat} {A : Nat → Prop} {a0 : pw_A} {c0 : pw_C} (hE : lw_E p s m meth c b L xs D ca kS kT A) {i : Nat} (hi : i + 6 ≤ L) {ad : pw_A} {C : pw_C} (hI : lw_I ca kS kT ad C) {H : Heap} {locs : List Loc} {ls : Array Slot} (hw : pw_H D cls9 A s.heap a0 c0 ad C H locs) (hl : lv_has ls 4 [(3, .int (nI i)), (2, .ref (ad 30 0)), (1, .ref (ad 0 0)), (0, .ref b)]) {cells slots : Nat} (hc : cells + 7 ≤ 600000) (hs : slots + 90 ≤ 7302250) {Q : State → Prop} (kk : ∀ (ad' : pw_A) (C' : pw_C) (H' : Heap) (locs' : List Loc), lw_I ca kS kT ad' C' → ad' 0 0 = ad 0 0 → ad' 30 0 = ad 30 0 → pw_H D cls9 A s.heap a0 c0 ad' C' H' locs' → W p l e ({ frames := 2048, cells := 600000, slots := 7302250, locals := 84000 }) s m #[Value.ref b] below meth c H' locs' (cells + 7) (slots + 90) Q (F0 m 788 ls [])) : W p l e ({ frames := 2048, cells := 600000, slots := 7302250, locals := 84000 }) s m #[Value.ref b] below meth c H locs cells slots Q (F0 m 287 ls []) := by
  obtain ⟨hx, hb, hr, hml, hown, hts0, hX, hbl, hbA, hA, hlocks, hL, hK, hz⟩ := hE
  have hts := wd_hts hts0
  have hZ := z9_ok kS kT
  obtain ⟨C1, cd, mk, td, x, q, sn, r, hJ, f1, f2, f3, f4, hw⟩ := lw_clean hI hw
  obtain ⟨hG, hO, hR, hP⟩ := hJ
  clear hI
  refine lv_aload_n hx hb d_L_law_287 rfl (lv_at hl 2 rfl) ?_
  refine lv_aload_n hx hb d_L_law_288 rfl (lv_at hl 3 rfl) ?_
  refine lv_iload_n hx hb d_L_law_289 rfl (lv_at hl 0 rfl) ?_
  refine lv_iconst (v := 1) hx hb d_L_law_290 (by decide) ?_
  refine lv_iadd hx hb d_L_law_291 ?_
  refine lw_ld hx hb hX hbl hbA hw.2.2.1 hi hL 1 (by decide) (by decide) d_L_law_292 ?_
  refine lv_i2l hx hb d_L_law_293 rfl ?_
  refine lv_bipush (v := 32) hx hb d_L_law_294 (by decide) ?_
  refine lv_lshl hx hb d_L_law_296 rfl ?_
  refine lv_aload_n hx hb d_L_law_297 rfl (lv_at hl 3 rfl) ?_
  refine lv_iload_n hx hb d_L_law_298 rfl (lv_at hl 0 rfl) ?_
  refine lv_iconst (v := 2) hx hb d_L_law_299 (by decide) ?_
  refine lv_iadd hx hb d_L_law_300 ?_
  refine lw_ld hx hb hX hbl hbA hw.2.2.1 hi hL 2 (by decide) (by decide) d_L_law_301 ?_
  refine lv_i2l hx hb d_L_law_302 rfl ?_
  refine lv_ldc2 (v := 4294967295) hx hb hown (hts _ wd_1071) d_L_law_303 ?_
  refine lv_land hx hb d_L_law_306 ?_
  refine lv_lor hx hb d_L_law_307 ?_
  refine pw_calli (va_runV (As := [.long ((((xs (i + 1)).toInt64) <<< ((32 : Int32).toInt64 &&& 63)) ||| (((xs (i + 2)).toInt64) &&& 4294967295))]) (rest := []) ⟨hx, hb, hml, hown, hts0⟩ (k_G_text hG f2 f3 f4 ((((xs (i + 1)).toInt64) <<< ((32 : Int32).toInt64 &&& 63)) ||| (((xs (i + 2)).toInt64) &&& 4294967295)) _) (cwV 1 hts0 (wd_V wd_410 wd_407 wd_408 wd_409 wd_53) rfl rfl rfl (by decide +kernel) ⟨(by (try dsimp only); omega), (by (try dsimp only); omega)⟩) (pw_preV hZ hw hA hK hz rfl hG.1 rfl) rfl rfl hl.1 rfl (lv_room (Nat.le_of_ble_eq_true rfl)) d_L_law_308 ⟨(by (try dsimp only); omega), (by (try dsimp only); omega)⟩) hw hA (fun r_3 ad_1 C_2 H locs hp hw => ?_)
  obtain ⟨⟨hG, hf⟩, er⟩ := hp
  obtain ⟨hO, hR⟩ := lf_1 hO hR (fun x y h => hf.1 x y (by omega) (by omega) (by omega)) (fun x y h => hf.2 x y (by omega))
  have h00 : ad_1 0 0 = ad 0 0 := hf.2 0 0 (by omega)
  have h30 : ad_1 30 0 = ad 30 0 := hf.2 30 0 (by omega)
  have hl : lv_has ls 4 [(3, .int (nI i)), (2, .ref (ad_1 30 0)), (1, .ref (ad_1 0 0)), (0, .ref b)] := by rw [h30, h00]; exact hl
  refine lv_aload_n hx hb d_L_law_311 rfl (lv_at hl 1 rfl) ?_
  refine lv_aload_n hx hb d_L_law_312 rfl (lv_at hl 3 rfl) ?_
  refine lv_iload_n hx hb d_L_law_313 rfl (lv_at hl 0 rfl) ?_
  refine lv_iconst (v := 1) hx hb d_L_law_314 (by decide) ?_
  refine lv_iadd hx hb d_L_law_315 ?_
  refine lw_ld hx hb hX hbl hbA hw.2.2.1 hi hL 1 (by decide) (by decide) d_L_law_316 ?_
  refine lv_i2l hx hb d_L_law_317 rfl ?_
  refine lv_bipush (v := 32) hx hb d_L_law_318 (by decide) ?_
  refine lv_lshl hx hb d_L_law_320 rfl ?_
  refine lv_aload_n hx hb d_L_law_321 rfl (lv_at hl 3 rfl) ?_
  refine lv_iload_n hx hb d_L_law_322 rfl (lv_at hl 0 rfl) ?_
  refine lv_iconst (v := 2) hx hb d_L_law_323 (by decide) ?_
  refine lv_iadd hx hb d_L_law_324 ?_
  refine lw_ld hx hb hX hbl hbA hw.2.2.1 hi hL 2 (by decide) (by decide) d_L_law_325 ?_
  refine lv_i2l hx hb d_L_law_326 rfl ?_
  refine lv_ldc2 (v := 4294967295) hx hb hown (hts _ wd_1071) d_L_law_327 ?_
  refine lv_land hx hb d_L_law_330 ?_
  refine lv_lor hx hb d_L_law_331 ?_
  obtain ⟨r9, hM, hP⟩ := p_text hP ((((xs (i + 1)).toInt64) <<< ((32 : Int32).toInt64 &&& 63)) ||| (((xs (i + 2)).toInt64) &&& 4294967295))
  refine pw_calli (va_runV (As := [.long ((((xs (i + 1)).toInt64) <<< ((32 : Int32).toInt64 &&& 63)) ||| (((xs (i + 2)).toInt64) &&& 4294967295))]) (rest := [.int r_3]) ⟨hx, hb, hml, hown, hts0⟩ (k_M_text hR hM _) (cwV 1 hts0 (wd_V wd_893 wd_890 wd_891 wd_892 wd_56) rfl rfl rfl (by decide +kernel) ⟨(by (try dsimp only); omega), (by (try dsimp only); omega)⟩) (pw_preV hZ hw hA hK hz rfl (rm_at.o hR) rfl) rfl rfl hl.1 rfl (lv_room (Nat.le_of_ble_eq_true rfl)) d_L_law_332 ⟨(by (try dsimp only); omega), (by (try dsimp only); omega)⟩) hw hA (fun r_6 ad_4 C_5 H locs hp hw => ?_)
  obtain ⟨⟨hae, hR, hf⟩, er2⟩ := hp
  rw [hae] at hw
  obtain ⟨hG, hO⟩ := lf_M hG hO hf
  refine lv_icmp_eq (tgt := 788) hx hb d_L_law_335 (by decide) (fun c9 => ?_) (fun c9 => ?_)
  · refine W.widen (k := cells + 7) (n := slots + 90) (by omega) (by omega) ?_
    exact kk ad_1 C_5 H locs ⟨_, _, _, _, _, _, _, hG, hO, hR, hP⟩ h00 h30 hw
  · exact absurd (er.trans er2.symm) c9
