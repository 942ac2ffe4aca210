def OP_feed (F : Nat) (G H : Mm → Nat → Nat → Option Nat → Prop) : Prop := ∀ (m : Mm) (P D : Nat) (T : Option Nat), G m P D T → ∀ (a1 : Int64), ∃ z m1 m2, f_X8_feed F m a1 = some (z, m1) ∧ f_X9_feed F m1 a1 = some (z, m2) ∧ H m2 P D T
set_option maxHeartbeats 4000000 in
set_option maxRecDepth 100000 in
theorem lc_0 {F : Nat} {G H : Mm → Nat → Nat → Option Nat → Prop} {b L j : Nat} {xs : Nat → Int32} {m : Mm} {P D : Nat} {T : Option Nat} (hG : G m P D T) (hpl : isPl P ∧ isPl D) (hi1 : vp_in (nI j + 1) L) (hi2 : vp_in (nI j + 2) L) (hi3 : vp_in (nI j + 3) L) (hi4 : vp_in (nI j + 4) L) (hop : OP_feed F G H) (hnext : ∀ m P D T, H m P D T → LJ b L xs 1257 [(0, .float 77), (1, .ref 0), (2, .ref 113), (3, .int (nI j))] [] 135 m (RF P D T)) : LJ b L xs 196 [(0, .float 77), (1, .ref 0), (2, .ref 113), (3, .int (nI j))] [] 135 m (RF P D T) := by
  obtain ⟨z, m1, m2, hz1, hz2, hG2⟩ := hop m P D T hG ((((xs (nI j + 1).toNatClampNeg).toInt64 <<< ((32 : Int32).toInt64 &&& 63)) ||| ((xs (nI j + 2).toNatClampNeg).toInt64 &&& (4294967295 : Int64))))
  refine LJ_aload_n 1 1 0 dL_law_196 rfl rfl ?_
  refine LJ_sload_n 0 0 77 dL_law_197 rfl rfl ?_
  refine LJ_iload_n 3 3 (nI j) dL_law_198 rfl rfl ?_
  refine LJ_iconst 1 dL_law_199 (by decide) ?_
  refine LJ_iadd dL_law_200 ?_
  refine LJ_sld dL_law_201 hi1 ?_
  refine LJ_i2l dL_law_202 ?_
  refine LJ_bipush 32 dL_law_203 (by decide) ?_
  refine LJ_lshl dL_law_205 ?_
  refine LJ_sload_n 0 0 77 dL_law_206 rfl rfl ?_
  refine LJ_iload_n 3 3 (nI j) dL_law_207 rfl rfl ?_
  refine LJ_iconst 2 dL_law_208 (by decide) ?_
  refine LJ_iadd dL_law_209 ?_
  refine LJ_sld dL_law_210 hi2 ?_
  refine LJ_i2l dL_law_211 ?_
  refine LJ_ldc2 4294967295 dL_law_212 kl_L_13 ?_
  refine LJ_land dL_law_215 ?_
  refine LJ_lor dL_law_216 ?_
  have hc1 := ct_X8_feed F (n := 135) (by decide) P D T m ((((xs (nI j + 1).toNatClampNeg).toInt64 <<< ((32 : Int32).toInt64 &&& 63)) ||| ((xs (nI j + 2).toNatClampNeg).toInt64 &&& (4294967295 : Int64))))
  rw [hz1] at hc1
  refine LJ_callV 0 8 1 [.long ((((xs (nI j + 1).toNatClampNeg).toInt64 <<< ((32 : Int32).toInt64 &&& 63)) ||| ((xs (nI j + 2).toNatClampNeg).toInt64 &&& (4294967295 : Int64))))] dL_law_217 mv_X8_feed mv_X8_feedv lk_L_15 hc1 rfl rfl (by decide) rfl (by decide) ⟨by decide, by decide⟩ (Nat.le_of_ble_eq_true rfl) ⟨Nat.le_refl _, Nat.le_refl _⟩ ?_
  refine LJ_aload_n 2 2 113 dL_law_220 rfl rfl ?_
  refine LJ_sload_n 0 0 77 dL_law_221 rfl rfl ?_
  refine LJ_iload_n 3 3 (nI j) dL_law_222 rfl rfl ?_
  refine LJ_iconst 1 dL_law_223 (by decide) ?_
  refine LJ_iadd dL_law_224 ?_
  refine LJ_sld dL_law_225 hi1 ?_
  refine LJ_i2l dL_law_226 ?_
  refine LJ_bipush 32 dL_law_227 (by decide) ?_
  refine LJ_lshl dL_law_229 ?_
  refine LJ_sload_n 0 0 77 dL_law_230 rfl rfl ?_
  refine LJ_iload_n 3 3 (nI j) dL_law_231 rfl rfl ?_
  refine LJ_iconst 2 dL_law_232 (by decide) ?_
  refine LJ_iadd dL_law_233 ?_
  refine LJ_sld dL_law_234 hi2 ?_
  refine LJ_i2l dL_law_235 ?_
  refine LJ_ldc2 4294967295 dL_law_236 kl_L_13 ?_
  refine LJ_land dL_law_239 ?_
  refine LJ_lor dL_law_240 ?_
  have hc2 := ct_X9_feed F (n := 135) (by decide) P D T m1 ((((xs (nI j + 1).toNatClampNeg).toInt64 <<< ((32 : Int32).toInt64 &&& 63)) ||| ((xs (nI j + 2).toNatClampNeg).toInt64 &&& (4294967295 : Int64))))
  rw [hz2] at hc2
  refine LJ_callV 113 9 1 [.long ((((xs (nI j + 1).toNatClampNeg).toInt64 <<< ((32 : Int32).toInt64 &&& 63)) ||| ((xs (nI j + 2).toNatClampNeg).toInt64 &&& (4294967295 : Int64))))] dL_law_241 mv_X9_feed mv_X9_feedv lk_L_19 hc2 rfl rfl (by decide) rfl (by decide) ⟨by decide, by decide⟩ (Nat.le_of_ble_eq_true rfl) ⟨Nat.le_refl _, Nat.le_refl _⟩ ?_
  exact LJ_icmp_eq 1257 dL_law_244 (by decide) (fun _ => hnext m2 P D T hG2) (fun hne => absurd rfl hne)
def OP_end (F : Nat) (G H : Mm → Nat → Nat → Option Nat → Prop) : Prop := ∀ (m : Mm) (P D : Nat) (T : Option Nat), G m P D T → ∀ (a1 : Int32), ∃ z m1 m2, f_X8_end m a1 = some (z, m1) ∧ f_X9_end m1 a1 = some (z, m2) ∧ H m2 P D T
set_option maxHeartbeats 4000000 in
set_option maxRecDepth 100000 in
theorem lc_1 {F : Nat} {G H : Mm → Nat → Nat → Option Nat → Prop} {b L j : Nat} {xs : Nat → Int32} {m : Mm} {P D : Nat} {T : Option Nat} (hG : G m P D T) (hpl : isPl P ∧ isPl D) (hi1 : vp_in (nI j + 1) L) (hi2 : vp_in (nI j + 2) L) (hi3 : vp_in (nI j + 3) L) (hi4 : vp_in (nI j + 4) L) (hop : OP_end F G H) (hnext : ∀ m P D T, H m P D T → LJ b L xs 1257 [(0, .float 77), (1, .ref 0), (2, .ref 113), (3, .int (nI j))] [] 135 m (RF P D T)) : LJ b L xs 249 [(0, .float 77), (1, .ref 0), (2, .ref 113), (3, .int (nI j))] [] 135 m (RF P D T) := by
  obtain ⟨z, m1, m2, hz1, hz2, hG2⟩ := hop m P D T hG (xs (nI j + 1).toNatClampNeg)
  refine LJ_aload_n 1 1 0 dL_law_249 rfl rfl ?_
  refine LJ_sload_n 0 0 77 dL_law_250 rfl rfl ?_
  refine LJ_iload_n 3 3 (nI j) dL_law_251 rfl rfl ?_
  refine LJ_iconst 1 dL_law_252 (by decide) ?_
  refine LJ_iadd dL_law_253 ?_
  refine LJ_sld dL_law_254 hi1 ?_
  have hc1 := ct_X8_end F (n := 135) (by decide) P D T m (xs (nI j + 1).toNatClampNeg)
  rw [hz1] at hc1
  refine LJ_callV 0 8 1 [.int (xs (nI j + 1).toNatClampNeg)] dL_law_255 mv_X8_end mv_X8_endv lk_L_20 hc1 rfl rfl (by decide) rfl (by decide) ⟨by decide, by decide⟩ (Nat.le_of_ble_eq_true rfl) ⟨Nat.le_refl _, Nat.le_refl _⟩ ?_
  refine LJ_aload_n 2 2 113 dL_law_258 rfl rfl ?_
  refine LJ_sload_n 0 0 77 dL_law_259 rfl rfl ?_
  refine LJ_iload_n 3 3 (nI j) dL_law_260 rfl rfl ?_
  refine LJ_iconst 1 dL_law_261 (by decide) ?_
  refine LJ_iadd dL_law_262 ?_
  refine LJ_sld dL_law_263 hi1 ?_
  have hc2 := ct_X9_end F (n := 135) (by decide) P D T m1 (xs (nI j + 1).toNatClampNeg)
  rw [hz2] at hc2
  refine LJ_callV 113 9 1 [.int (xs (nI j + 1).toNatClampNeg)] dL_law_264 mv_X9_end mv_X9_endv lk_L_24 hc2 rfl rfl (by decide) rfl (by decide) ⟨by decide, by decide⟩ (Nat.le_of_ble_eq_true rfl) ⟨Nat.le_refl _, Nat.le_refl _⟩ ?_
  exact LJ_icmp_eq 1257 dL_law_267 (by decide) (fun _ => hnext m2 P D T hG2) (fun hne => absurd rfl hne)
def OP_text (F : Nat) (G H : Mm → Nat → Nat → Option Nat → Prop) : Prop := ∀ (m : Mm) (P D : Nat) (T : Option Nat), G m P D T → ∃ z m1 m2 P1 D1 T1, f_X8_text F m P D = some (z, m1, P1, D1, T1) ∧ f_X9_text F m1 = some (z, m2) ∧ H m2 P1 D1 T1
set_option maxHeartbeats 4000000 in
set_option maxRecDepth 100000 in
theorem lc_2 {F : Nat} {G H : Mm → Nat → Nat → Option Nat → Prop} {b L j : Nat} {xs : Nat → Int32} {m : Mm} {P D : Nat} {T : Option Nat} (hG : G m P D T) (hpl : isPl P ∧ isPl D) (hi1 : vp_in (nI j + 1) L) (hi2 : vp_in (nI j + 2) L) (hi3 : vp_in (nI j + 3) L) (hi4 : vp_in (nI j + 4) L) (hop : OP_text F G H) (hnext : ∀ m P D T, H m P D T → LJ b L xs 1257 [(0, .float 77), (1, .ref 0), (2, .ref 113), (3, .int (nI j))] [] 135 m (RF P D T)) : LJ b L xs 272 [(0, .float 77), (1, .ref 0), (2, .ref 113), (3, .int (nI j))] [] 135 m (RF P D T) := by
  obtain ⟨z, m1, m2, P1, D1, T1, hz1, hz2, hG2⟩ := hop m P D T hG 
  refine LJ_aload_n 1 1 0 dL_law_272 rfl rfl ?_
  have hc1 := ct_X8_text F (n := 135) (by decide) P D T hpl.2 m
  rw [hz1] at hc1
  refine LJ_callV 0 8 0 [] dL_law_273 mv_X8_text mv_X8_textv lk_L_25 hc1 rfl rfl (by decide) rfl (by decide) ⟨by decide, by decide⟩ (Nat.le_of_ble_eq_true rfl) ⟨Nat.le_refl _, Nat.le_refl _⟩ ?_
  refine LJ_aload_n 2 2 113 dL_law_276 rfl rfl ?_
  have hc2 := ct_X9_text F (n := 135) (by decide) P1 D1 T1 m1 
  rw [hz2] at hc2
  refine LJ_callV 113 9 0 [] dL_law_277 mv_X9_text mv_X9_textv lk_L_29 hc2 rfl rfl (by decide) rfl (by decide) ⟨by decide, by decide⟩ (Nat.le_of_ble_eq_true rfl) ⟨Nat.le_refl _, Nat.le_refl _⟩ ?_
  exact LJ_icmp_eq 1257 dL_law_280 (by decide) (fun _ => hnext m2 P1 D1 T1 hG2) (fun hne => absurd rfl hne)
def OP_fault (F : Nat) (G H : Mm → Nat → Nat → Option Nat → Prop) : Prop := ∀ (m : Mm) (P D : Nat) (T : Option Nat), G m P D T → ∃ z, f_X8_fault m = some z ∧ f_X9_fault m = some z ∧ H m P D T
set_option maxHeartbeats 4000000 in
set_option maxRecDepth 100000 in
theorem lc_3 {F : Nat} {G H : Mm → Nat → Nat → Option Nat → Prop} {b L j : Nat} {xs : Nat → Int32} {m : Mm} {P D : Nat} {T : Option Nat} (hG : G m P D T) (hpl : isPl P ∧ isPl D) (hi1 : vp_in (nI j + 1) L) (hi2 : vp_in (nI j + 2) L) (hi3 : vp_in (nI j + 3) L) (hi4 : vp_in (nI j + 4) L) (hop : OP_fault F G H) (hnext : ∀ m P D T, H m P D T → LJ b L xs 1257 [(0, .float 77), (1, .ref 0), (2, .ref 113), (3, .int (nI j))] [] 135 m (RF P D T)) : LJ b L xs 285 [(0, .float 77), (1, .ref 0), (2, .ref 113), (3, .int (nI j))] [] 135 m (RF P D T) := by
  obtain ⟨z, hz1, hz2, hG2⟩ := hop m P D T hG 
  refine LJ_aload_n 1 1 0 dL_law_285 rfl rfl ?_
  have hc1 := ct_X8_fault F (n := 135) (by decide) P D T m 
  rw [hz1] at hc1
  refine LJ_callV 0 8 0 [] dL_law_286 mv_X8_fault mv_X8_faultv lk_L_30 hc1 rfl rfl (by decide) rfl (by decide) ⟨by decide, by decide⟩ (Nat.le_of_ble_eq_true rfl) ⟨Nat.le_refl _, Nat.le_refl _⟩ ?_
  refine LJ_aload_n 2 2 113 dL_law_289 rfl rfl ?_
  have hc2 := ct_X9_fault F (n := 135) (by decide) P D T m 
  rw [hz2] at hc2
  refine LJ_callV 113 9 0 [] dL_law_290 mv_X9_fault mv_X9_faultv lk_L_33 hc2 rfl rfl (by decide) rfl (by decide) ⟨by decide, by decide⟩ (Nat.le_of_ble_eq_true rfl) ⟨Nat.le_refl _, Nat.le_refl _⟩ ?_
  exact LJ_icmp_eq 1257 dL_law_293 (by decide) (fun _ => hnext m P D T hG2) (fun hne => absurd rfl hne)
def OP_hold (F : Nat) (G H : Mm → Nat → Nat → Option Nat → Prop) : Prop := ∀ (m : Mm) (P D : Nat) (T : Option Nat), G m P D T → ∀ (a1 : Int32) (a2 : Int32), ∃ z, f_X8_hold m P a1 a2 = some z ∧ f_X9_hold m a1 a2 = some z ∧ H m P D T
set_option maxHeartbeats 4000000 in
set_option maxRecDepth 100000 in
theorem lc_4 {F : Nat} {G H : Mm → Nat → Nat → Option Nat → Prop} {b L j : Nat} {xs : Nat → Int32} {m : Mm} {P D : Nat} {T : Option Nat} (hG : G m P D T) (hpl : isPl P ∧ isPl D) (hi1 : vp_in (nI j + 1) L) (hi2 : vp_in (nI j + 2) L) (hi3 : vp_in (nI j + 3) L) (hi4 : vp_in (nI j + 4) L) (hop : OP_hold F G H) (hnext : ∀ m P D T, H m P D T → LJ b L xs 1257 [(0, .float 77), (1, .ref 0), (2, .ref 113), (3, .int (nI j))] [] 135 m (RF P D T)) : LJ b L xs 298 [(0, .float 77), (1, .ref 0), (2, .ref 113), (3, .int (nI j))] [] 135 m (RF P D T) := by
  obtain ⟨z, hz1, hz2, hG2⟩ := hop m P D T hG (xs (nI j + 1).toNatClampNeg) (xs (nI j + 2).toNatClampNeg)
  refine LJ_aload_n 1 1 0 dL_law_298 rfl rfl ?_
  refine LJ_sload_n 0 0 77 dL_law_299 rfl rfl ?_
  refine LJ_iload_n 3 3 (nI j) dL_law_300 rfl rfl ?_
  refine LJ_iconst 1 dL_law_301 (by decide) ?_
  refine LJ_iadd dL_law_302 ?_
  refine LJ_sld dL_law_303 hi1 ?_
  refine LJ_sload_n 0 0 77 dL_law_304 rfl rfl ?_
  refine LJ_iload_n 3 3 (nI j) dL_law_305 rfl rfl ?_
  refine LJ_iconst 2 dL_law_306 (by decide) ?_
  refine LJ_iadd dL_law_307 ?_
  refine LJ_sld dL_law_308 hi2 ?_
  have hc1 := ct_X8_hold F (n := 135) (by decide) P D T hpl.1 m (xs (nI j + 1).toNatClampNeg) (xs (nI j + 2).toNatClampNeg)
  rw [hz1] at hc1
  refine LJ_callV 0 8 2 [.int (xs (nI j + 1).toNatClampNeg), .int (xs (nI j + 2).toNatClampNeg)] dL_law_309 mv_X8_hold mv_X8_holdv lk_L_34 hc1 rfl rfl (by decide) rfl (by decide) ⟨by decide, by decide⟩ (Nat.le_of_ble_eq_true rfl) ⟨Nat.le_refl _, Nat.le_refl _⟩ ?_
  refine LJ_aload_n 2 2 113 dL_law_312 rfl rfl ?_
  refine LJ_sload_n 0 0 77 dL_law_313 rfl rfl ?_
  refine LJ_iload_n 3 3 (nI j) dL_law_314 rfl rfl ?_
  refine LJ_iconst 1 dL_law_315 (by decide) ?_
  refine LJ_iadd dL_law_316 ?_
  refine LJ_sld dL_law_317 hi1 ?_
  refine LJ_sload_n 0 0 77 dL_law_318 rfl rfl ?_
  refine LJ_iload_n 3 3 (nI j) dL_law_319 rfl rfl ?_
  refine LJ_iconst 2 dL_law_320 (by decide) ?_
  refine LJ_iadd dL_law_321 ?_
  refine LJ_sld dL_law_322 hi2 ?_
  have hc2 := ct_X9_hold F (n := 135) (by decide) P D T m (xs (nI j + 1).toNatClampNeg) (xs (nI j + 2).toNatClampNeg)
  rw [hz2] at hc2
  refine LJ_callV 113 9 2 [.int (xs (nI j + 1).toNatClampNeg), .int (xs (nI j + 2).toNatClampNeg)] dL_law_323 mv_X9_hold mv_X9_holdv lk_L_38 hc2 rfl rfl (by decide) rfl (by decide) ⟨by decide, by decide⟩ (Nat.le_of_ble_eq_true rfl) ⟨Nat.le_refl _, Nat.le_refl _⟩ ?_
  exact LJ_icmp_eq 1257 dL_law_326 (by decide) (fun _ => hnext m P D T hG2) (fun hne => absurd rfl hne)
def OP_door (F : Nat) (G H : Mm → Nat → Nat → Option Nat → Prop) : Prop := ∀ (m : Mm) (P D : Nat) (T : Option Nat), G m P D T → ∀ (a1 : Int32) (a2 : Int32), ∃ z, f_X8_door F m P a1 a2 = some z ∧ f_X9_door m a1 a2 = some z ∧ H m P D T
set_option maxHeartbeats 4000000 in
set_option maxRecDepth 100000 in
theorem lc_5 {F : Nat} {G H : Mm → Nat → Nat → Option Nat → Prop} {b L j : Nat} {xs : Nat → Int32} {m : Mm} {P D : Nat} {T : Option Nat} (hG : G m P D T) (hpl : isPl P ∧ isPl D) (hi1 : vp_in (nI j + 1) L) (hi2 : vp_in (nI j + 2) L) (hi3 : vp_in (nI j + 3) L) (hi4 : vp_in (nI j + 4) L) (hop : OP_door F G H) (hnext : ∀ m P D T, H m P D T → LJ b L xs 1257 [(0, .float 77), (1, .ref 0), (2, .ref 113), (3, .int (nI j))] [] 135 m (RF P D T)) : LJ b L xs 331 [(0, .float 77), (1, .ref 0), (2, .ref 113), (3, .int (nI j))] [] 135 m (RF P D T) := by
  obtain ⟨z, hz1, hz2, hG2⟩ := hop m P D T hG (xs (nI j + 1).toNatClampNeg) (xs (nI j + 2).toNatClampNeg)
  refine LJ_aload_n 1 1 0 dL_law_331 rfl rfl ?_
  refine LJ_sload_n 0 0 77 dL_law_332 rfl rfl ?_
  refine LJ_iload_n 3 3 (nI j) dL_law_333 rfl rfl ?_
  refine LJ_iconst 1 dL_law_334 (by decide) ?_
  refine LJ_iadd dL_law_335 ?_
  refine LJ_sld dL_law_336 hi1 ?_
  refine LJ_sload_n 0 0 77 dL_law_337 rfl rfl ?_
  refine LJ_iload_n 3 3 (nI j) dL_law_338 rfl rfl ?_
  refine LJ_iconst 2 dL_law_339 (by decide) ?_
  refine LJ_iadd dL_law_340 ?_
  refine LJ_sld dL_law_341 hi2 ?_
  have hc1 := ct_X8_door F (n := 135) (by decide) P D T hpl.1 m (xs (nI j + 1).toNatClampNeg) (xs (nI j + 2).toNatClampNeg)
  rw [hz1] at hc1
  refine LJ_callV 0 8 2 [.int (xs (nI j + 1).toNatClampNeg), .int (xs (nI j + 2).toNatClampNeg)] dL_law_342 mv_X8_door mv_X8_doorv lk_L_39 hc1 rfl rfl (by decide) rfl (by decide) ⟨by decide, by decide⟩ (Nat.le_of_ble_eq_true rfl) ⟨Nat.le_refl _, Nat.le_refl _⟩ ?_
  refine LJ_aload_n 2 2 113 dL_law_345 rfl rfl ?_
  refine LJ_sload_n 0 0 77 dL_law_346 rfl rfl ?_
  refine LJ_iload_n 3 3 (nI j) dL_law_347 rfl rfl ?_
  refine LJ_iconst 1 dL_law_348 (by decide) ?_
  refine LJ_iadd dL_law_349 ?_
  refine LJ_sld dL_law_350 hi1 ?_
  refine LJ_sload_n 0 0 77 dL_law_351 rfl rfl ?_
  refine LJ_iload_n 3 3 (nI j) dL_law_352 rfl rfl ?_
  refine LJ_iconst 2 dL_law_353 (by decide) ?_
  refine LJ_iadd dL_law_354 ?_
  refine LJ_sld dL_law_355 hi2 ?_
  have hc2 := ct_X9_door F (n := 135) (by decide) P D T m (xs (nI j + 1).toNatClampNeg) (xs (nI j + 2).toNatClampNeg)
  rw [hz2] at hc2
  refine LJ_callV 113 9 2 [.int (xs (nI j + 1).toNatClampNeg), .int (xs (nI j + 2).toNatClampNeg)] dL_law_356 mv_X9_door mv_X9_doorv lk_L_42 hc2 rfl rfl (by decide) rfl (by decide) ⟨by decide, by decide⟩ (Nat.le_of_ble_eq_true rfl) ⟨Nat.le_refl _, Nat.le_refl _⟩ ?_
  exact LJ_icmp_eq 1257 dL_law_359 (by decide) (fun _ => hnext m P D T hG2) (fun hne => absurd rfl hne)
def OP_hole (F : Nat) (G H : Mm → Nat → Nat → Option Nat → Prop) : Prop := ∀ (m : Mm) (P D : Nat) (T : Option Nat), G m P D T → ∀ (a1 : Int32) (a2 : Int32), ∃ z, f_X8_hole m P a1 a2 = some z ∧ f_X9_hole m a1 a2 = some z ∧ H m P D T
set_option maxHeartbeats 4000000 in
set_option maxRecDepth 100000 in
theorem lc_6 {F : Nat} {G H : Mm → Nat → Nat → Option Nat → Prop} {b L j : Nat} {xs : Nat → Int32} {m : Mm} {P D : Nat} {T : Option Nat} (hG : G m P D T) (hpl : isPl P ∧ isPl D) (hi1 : vp_in (nI j + 1) L) (hi2 : vp_in (nI j + 2) L) (hi3 : vp_in (nI j + 3) L) (hi4 : vp_in (nI j + 4) L) (hop : OP_hole F G H) (hnext : ∀ m P D T, H m P D T → LJ b L xs 1257 [(0, .float 77), (1, .ref 0), (2, .ref 113), (3, .int (nI j))] [] 135 m (RF P D T)) : LJ b L xs 364 [(0, .float 77), (1, .ref 0), (2, .ref 113), (3, .int (nI j))] [] 135 m (RF P D T) := by
  obtain ⟨z, hz1, hz2, hG2⟩ := hop m P D T hG (xs (nI j + 1).toNatClampNeg) (xs (nI j + 2).toNatClampNeg)
  refine LJ_aload_n 1 1 0 dL_law_364 rfl rfl ?_
  refine LJ_sload_n 0 0 77 dL_law_365 rfl rfl ?_
  refine LJ_iload_n 3 3 (nI j) dL_law_366 rfl rfl ?_
  refine LJ_iconst 1 dL_law_367 (by decide) ?_
  refine LJ_iadd dL_law_368 ?_
  refine LJ_sld dL_law_369 hi1 ?_
  refine LJ_sload_n 0 0 77 dL_law_370 rfl rfl ?_
  refine LJ_iload_n 3 3 (nI j) dL_law_371 rfl rfl ?_
  refine LJ_iconst 2 dL_law_372 (by decide) ?_
  refine LJ_iadd dL_law_373 ?_
  refine LJ_sld dL_law_374 hi2 ?_
  have hc1 := ct_X8_hole F (n := 135) (by decide) P D T hpl.1 m (xs (nI j + 1).toNatClampNeg) (xs (nI j + 2).toNatClampNeg)
  rw [hz1] at hc1
  refine LJ_callV 0 8 2 [.int (xs (nI j + 1).toNatClampNeg), .int (xs (nI j + 2).toNatClampNeg)] dL_law_375 mv_X8_hole mv_X8_holev lk_L_43 hc1 rfl rfl (by decide) rfl (by decide) ⟨by decide, by decide⟩ (Nat.le_of_ble_eq_true rfl) ⟨Nat.le_refl _, Nat.le_refl _⟩ ?_
  refine LJ_aload_n 2 2 113 dL_law_378 rfl rfl ?_
  refine LJ_sload_n 0 0 77 dL_law_379 rfl rfl ?_
  refine LJ_iload_n 3 3 (nI j) dL_law_380 rfl rfl ?_
  refine LJ_iconst 1 dL_law_381 (by decide) ?_
  refine LJ_iadd dL_law_382 ?_
  refine LJ_sld dL_law_383 hi1 ?_
  refine LJ_sload_n 0 0 77 dL_law_384 rfl rfl ?_
  refine LJ_iload_n 3 3 (nI j) dL_law_385 rfl rfl ?_
  refine LJ_iconst 2 dL_law_386 (by decide) ?_
  refine LJ_iadd dL_law_387 ?_
  refine LJ_sld dL_law_388 hi2 ?_
  have hc2 := ct_X9_hole F (n := 135) (by decide) P D T m (xs (nI j + 1).toNatClampNeg) (xs (nI j + 2).toNatClampNeg)
  rw [hz2] at hc2
  refine LJ_callV 113 9 2 [.int (xs (nI j + 1).toNatClampNeg), .int (xs (nI j + 2).toNatClampNeg)] dL_law_389 mv_X9_hole mv_X9_holev lk_L_46 hc2 rfl rfl (by decide) rfl (by decide) ⟨by decide, by decide⟩ (Nat.le_of_ble_eq_true rfl) ⟨Nat.le_refl _, Nat.le_refl _⟩ ?_
  exact LJ_icmp_eq 1257 dL_law_392 (by decide) (fun _ => hnext m P D T hG2) (fun hne => absurd rfl hne)
def OP_pump (F : Nat) (G H : Mm → Nat → Nat → Option Nat → Prop) : Prop := ∀ (m : Mm) (P D : Nat) (T : Option Nat), G m P D T → ∀ (a1 : Int32) (a2 : Int32), ∃ z, f_X8_pump m P a1 a2 = some z ∧ f_X9_pump m a1 a2 = some z ∧ H m P D T
set_option maxHeartbeats 4000000 in
set_option maxRecDepth 100000 in
theorem lc_7 {F : Nat} {G H : Mm → Nat → Nat → Option Nat → Prop} {b L j : Nat} {xs : Nat → Int32} {m : Mm} {P D : Nat} {T : Option Nat} (hG : G m P D T) (hpl : isPl P ∧ isPl D) (hi1 : vp_in (nI j + 1) L) (hi2 : vp_in (nI j + 2) L) (hi3 : vp_in (nI j + 3) L) (hi4 : vp_in (nI j + 4) L) (hop : OP_pump F G H) (hnext : ∀ m P D T, H m P D T → LJ b L xs 1257 [(0, .float 77), (1, .ref 0), (2, .ref 113), (3, .int (nI j))] [] 135 m (RF P D T)) : LJ b L xs 397 [(0, .float 77), (1, .ref 0), (2, .ref 113), (3, .int (nI j))] [] 135 m (RF P D T) := by
  obtain ⟨z, hz1, hz2, hG2⟩ := hop m P D T hG (xs (nI j + 1).toNatClampNeg) (xs (nI j + 2).toNatClampNeg)
  refine LJ_aload_n 1 1 0 dL_law_397 rfl rfl ?_
  refine LJ_sload_n 0 0 77 dL_law_398 rfl rfl ?_
  refine LJ_iload_n 3 3 (nI j) dL_law_399 rfl rfl ?_
  refine LJ_iconst 1 dL_law_400 (by decide) ?_
  refine LJ_iadd dL_law_401 ?_
  refine LJ_sld dL_law_402 hi1 ?_
  refine LJ_sload_n 0 0 77 dL_law_403 rfl rfl ?_
  refine LJ_iload_n 3 3 (nI j) dL_law_404 rfl rfl ?_
  refine LJ_iconst 2 dL_law_405 (by decide) ?_
  refine LJ_iadd dL_law_406 ?_
  refine LJ_sld dL_law_407 hi2 ?_
  have hc1 := ct_X8_pump F (n := 135) (by decide) P D T hpl.1 m (xs (nI j + 1).toNatClampNeg) (xs (nI j + 2).toNatClampNeg)
  rw [hz1] at hc1
  refine LJ_callV 0 8 2 [.int (xs (nI j + 1).toNatClampNeg), .int (xs (nI j + 2).toNatClampNeg)] dL_law_408 mv_X8_pump mv_X8_pumpv lk_L_47 hc1 rfl rfl (by decide) rfl (by decide) ⟨by decide, by decide⟩ (Nat.le_of_ble_eq_true rfl) ⟨Nat.le_refl _, Nat.le_refl _⟩ ?_
  refine LJ_aload_n 2 2 113 dL_law_411 rfl rfl ?_
  refine LJ_sload_n 0 0 77 dL_law_412 rfl rfl ?_
  refine LJ_iload_n 3 3 (nI j) dL_law_413 rfl rfl ?_
  refine LJ_iconst 1 dL_law_414 (by decide) ?_
  refine LJ_iadd dL_law_415 ?_
  refine LJ_sld dL_law_416 hi1 ?_
  refine LJ_sload_n 0 0 77 dL_law_417 rfl rfl ?_
  refine LJ_iload_n 3 3 (nI j) dL_law_418 rfl rfl ?_
  refine LJ_iconst 2 dL_law_419 (by decide) ?_
  refine LJ_iadd dL_law_420 ?_
  refine LJ_sld dL_law_421 hi2 ?_
  have hc2 := ct_X9_pump F (n := 135) (by decide) P D T m (xs (nI j + 1).toNatClampNeg) (xs (nI j + 2).toNatClampNeg)
  rw [hz2] at hc2
  refine LJ_callV 113 9 2 [.int (xs (nI j + 1).toNatClampNeg), .int (xs (nI j + 2).toNatClampNeg)] dL_law_422 mv_X9_pump mv_X9_pumpv lk_L_50 hc2 rfl rfl (by decide) rfl (by decide) ⟨by decide, by decide⟩ (Nat.le_of_ble_eq_true rfl) ⟨Nat.le_refl _, Nat.le_refl _⟩ ?_
  exact LJ_icmp_eq 1257 dL_law_425 (by decide) (fun _ => hnext m P D T hG2) (fun hne => absurd rfl hne)
def OP_rule (F : Nat) (G H : Mm → Nat → Nat → Option Nat → Prop) : Prop := ∀ (m : Mm) (P D : Nat) (T : Option Nat), G m P D T → ∀ (a1 : Int32), ∃ z, f_X8_rule m P a1 = some z ∧ f_X9_rule m a1 = some z ∧ H m P D T
set_option maxHeartbeats 4000000 in
set_option maxRecDepth 100000 in
theorem lc_8 {F : Nat} {G H : Mm → Nat → Nat → Option Nat → Prop} {b L j : Nat} {xs : Nat → Int32} {m : Mm} {P D : Nat} {T : Option Nat} (hG : G m P D T) (hpl : isPl P ∧ isPl D) (hi1 : vp_in (nI j + 1) L) (hi2 : vp_in (nI j + 2) L) (hi3 : vp_in (nI j + 3) L) (hi4 : vp_in (nI j + 4) L) (hop : OP_rule F G H) (hnext : ∀ m P D T, H m P D T → LJ b L xs 1257 [(0, .float 77), (1, .ref 0), (2, .ref 113), (3, .int (nI j))] [] 135 m (RF P D T)) : LJ b L xs 430 [(0, .float 77), (1, .ref 0), (2, .ref 113), (3, .int (nI j))] [] 135 m (RF P D T) := by
  obtain ⟨z, hz1, hz2, hG2⟩ := hop m P D T hG (xs (nI j + 1).toNatClampNeg)
  refine LJ_aload_n 1 1 0 dL_law_430 rfl rfl ?_
  refine LJ_sload_n 0 0 77 dL_law_431 rfl rfl ?_
  refine LJ_iload_n 3 3 (nI j) dL_law_432 rfl rfl ?_
  refine LJ_iconst 1 dL_law_433 (by decide) ?_
  refine LJ_iadd dL_law_434 ?_
  refine LJ_sld dL_law_435 hi1 ?_
  have hc1 := ct_X8_rule F (n := 135) (by decide) P D T hpl.1 m (xs (nI j + 1).toNatClampNeg)
  rw [hz1] at hc1
  refine LJ_callV 0 8 1 [.int (xs (nI j + 1).toNatClampNeg)] dL_law_436 mv_X8_rule mv_X8_rulev lk_L_51 hc1 rfl rfl (by decide) rfl (by decide) ⟨by decide, by decide⟩ (Nat.le_of_ble_eq_true rfl) ⟨Nat.le_refl _, Nat.le_refl _⟩ ?_
  refine LJ_aload_n 2 2 113 dL_law_439 rfl rfl ?_
  refine LJ_sload_n 0 0 77 dL_law_440 rfl rfl ?_
  refine LJ_iload_n 3 3 (nI j) dL_law_441 rfl rfl ?_
  refine LJ_iconst 1 dL_law_442 (by decide) ?_
  refine LJ_iadd dL_law_443 ?_
  refine LJ_sld dL_law_444 hi1 ?_
  have hc2 := ct_X9_rule F (n := 135) (by decide) P D T m (xs (nI j + 1).toNatClampNeg)
  rw [hz2] at hc2
  refine LJ_callV 113 9 1 [.int (xs (nI j + 1).toNatClampNeg)] dL_law_445 mv_X9_rule mv_X9_rulev lk_L_54 hc2 rfl rfl (by decide) rfl (by decide) ⟨by decide, by decide⟩ (Nat.le_of_ble_eq_true rfl) ⟨Nat.le_refl _, Nat.le_refl _⟩ ?_
  exact LJ_icmp_eq 1257 dL_law_448 (by decide) (fun _ => hnext m P D T hG2) (fun hne => absurd rfl hne)
def OP_put (F : Nat) (G H : Mm → Nat → Nat → Option Nat → Prop) : Prop := ∀ (m : Mm) (P D : Nat) (T : Option Nat), G m P D T → ∀ (a1 : Int32) (a2 : Int32), ∃ z m1 m2, f_X8_put F m P a1 a2 = some (z, m1) ∧ f_X9_put F m1 a1 a2 = some (z, m2) ∧ H m2 P D T
set_option maxHeartbeats 4000000 in
set_option maxRecDepth 100000 in
theorem lc_9 {F : Nat} {G H : Mm → Nat → Nat → Option Nat → Prop} {b L j : Nat} {xs : Nat → Int32} {m : Mm} {P D : Nat} {T : Option Nat} (hG : G m P D T) (hpl : isPl P ∧ isPl D) (hi1 : vp_in (nI j + 1) L) (hi2 : vp_in (nI j + 2) L) (hi3 : vp_in (nI j + 3) L) (hi4 : vp_in (nI j + 4) L) (hop : OP_put F G H) (hnext : ∀ m P D T, H m P D T → LJ b L xs 1257 [(0, .float 77), (1, .ref 0), (2, .ref 113), (3, .int (nI j))] [] 135 m (RF P D T)) : LJ b L xs 453 [(0, .float 77), (1, .ref 0), (2, .ref 113), (3, .int (nI j))] [] 135 m (RF P D T) := by
  obtain ⟨z, m1, m2, hz1, hz2, hG2⟩ := hop m P D T hG (xs (nI j + 1).toNatClampNeg) (xs (nI j + 2).toNatClampNeg)
  refine LJ_aload_n 1 1 0 dL_law_453 rfl rfl ?_
  refine LJ_sload_n 0 0 77 dL_law_454 rfl rfl ?_
  refine LJ_iload_n 3 3 (nI j) dL_law_455 rfl rfl ?_
  refine LJ_iconst 1 dL_law_456 (by decide) ?_
  refine LJ_iadd dL_law_457 ?_
  refine LJ_sld dL_law_458 hi1 ?_
  refine LJ_sload_n 0 0 77 dL_law_459 rfl rfl ?_
  refine LJ_iload_n 3 3 (nI j) dL_law_460 rfl rfl ?_
  refine LJ_iconst 2 dL_law_461 (by decide) ?_
  refine LJ_iadd dL_law_462 ?_
  refine LJ_sld dL_law_463 hi2 ?_
  have hc1 := ct_X8_put F (n := 135) (by decide) P D T hpl.1 m (xs (nI j + 1).toNatClampNeg) (xs (nI j + 2).toNatClampNeg)
  rw [hz1] at hc1
  refine LJ_callV 0 8 2 [.int (xs (nI j + 1).toNatClampNeg), .int (xs (nI j + 2).toNatClampNeg)] dL_law_464 mv_X8_put mv_X8_putv lk_L_55 hc1 rfl rfl (by decide) rfl (by decide) ⟨by decide, by decide⟩ (Nat.le_of_ble_eq_true rfl) ⟨Nat.le_refl _, Nat.le_refl _⟩ ?_
  refine LJ_aload_n 2 2 113 dL_law_467 rfl rfl ?_
  refine LJ_sload_n 0 0 77 dL_law_468 rfl rfl ?_
  refine LJ_iload_n 3 3 (nI j) dL_law_469 rfl rfl ?_
  refine LJ_iconst 1 dL_law_470 (by decide) ?_
  refine LJ_iadd dL_law_471 ?_
  refine LJ_sld dL_law_472 hi1 ?_
  refine LJ_sload_n 0 0 77 dL_law_473 rfl rfl ?_
  refine LJ_iload_n 3 3 (nI j) dL_law_474 rfl rfl ?_
  refine LJ_iconst 2 dL_law_475 (by decide) ?_
  refine LJ_iadd dL_law_476 ?_
  refine LJ_sld dL_law_477 hi2 ?_
  have hc2 := ct_X9_put F (n := 135) (by decide) P D T m1 (xs (nI j + 1).toNatClampNeg) (xs (nI j + 2).toNatClampNeg)
  rw [hz2] at hc2
  refine LJ_callV 113 9 2 [.int (xs (nI j + 1).toNatClampNeg), .int (xs (nI j + 2).toNatClampNeg)] dL_law_478 mv_X9_put mv_X9_putv lk_L_58 hc2 rfl rfl (by decide) rfl (by decide) ⟨by decide, by decide⟩ (Nat.le_of_ble_eq_true rfl) ⟨Nat.le_refl _, Nat.le_refl _⟩ ?_
  exact LJ_icmp_eq 1257 dL_law_481 (by decide) (fun _ => hnext m2 P D T hG2) (fun hne => absurd rfl hne)
def OP_go (F : Nat) (G H : Mm → Nat → Nat → Option Nat → Prop) : Prop := ∀ (m : Mm) (P D : Nat) (T : Option Nat), G m P D T → ∀ (a1 : Int32), ∃ z m1 m2, f_X8_go F m P a1 = some (z, m1) ∧ f_X9_go F m1 a1 = some (z, m2) ∧ H m2 P D T
set_option maxHeartbeats 4000000 in
set_option maxRecDepth 100000 in
theorem lc_10 {F : Nat} {G H : Mm → Nat → Nat → Option Nat → Prop} {b L j : Nat} {xs : Nat → Int32} {m : Mm} {P D : Nat} {T : Option Nat} (hG : G m P D T) (hpl : isPl P ∧ isPl D) (hi1 : vp_in (nI j + 1) L) (hi2 : vp_in (nI j + 2) L) (hi3 : vp_in (nI j + 3) L) (hi4 : vp_in (nI j + 4) L) (hop : OP_go F G H) (hnext : ∀ m P D T, H m P D T → LJ b L xs 1257 [(0, .float 77), (1, .ref 0), (2, .ref 113), (3, .int (nI j))] [] 135 m (RF P D T)) : LJ b L xs 486 [(0, .float 77), (1, .ref 0), (2, .ref 113), (3, .int (nI j))] [] 135 m (RF P D T) := by
  obtain ⟨z, m1, m2, hz1, hz2, hG2⟩ := hop m P D T hG (xs (nI j + 1).toNatClampNeg)
  refine LJ_aload_n 1 1 0 dL_law_486 rfl rfl ?_
  refine LJ_sload_n 0 0 77 dL_law_487 rfl rfl ?_
  refine LJ_iload_n 3 3 (nI j) dL_law_488 rfl rfl ?_
  refine LJ_iconst 1 dL_law_489 (by decide) ?_
  refine LJ_iadd dL_law_490 ?_
  refine LJ_sld dL_law_491 hi1 ?_
  have hc1 := ct_X8_go F (n := 135) (by decide) P D T hpl.1 m (xs (nI j + 1).toNatClampNeg)
  rw [hz1] at hc1
  refine LJ_callV 0 8 1 [.int (xs (nI j + 1).toNatClampNeg)] dL_law_492 mv_X8_go mv_X8_gov lk_L_59 hc1 rfl rfl (by decide) rfl (by decide) ⟨by decide, by decide⟩ (Nat.le_of_ble_eq_true rfl) ⟨Nat.le_refl _, Nat.le_refl _⟩ ?_
  refine LJ_aload_n 2 2 113 dL_law_495 rfl rfl ?_
  refine LJ_sload_n 0 0 77 dL_law_496 rfl rfl ?_
  refine LJ_iload_n 3 3 (nI j) dL_law_497 rfl rfl ?_
  refine LJ_iconst 1 dL_law_498 (by decide) ?_
  refine LJ_iadd dL_law_499 ?_
  refine LJ_sld dL_law_500 hi1 ?_
  have hc2 := ct_X9_go F (n := 135) (by decide) P D T m1 (xs (nI j + 1).toNatClampNeg)
  rw [hz2] at hc2
  refine LJ_callV 113 9 1 [.int (xs (nI j + 1).toNatClampNeg)] dL_law_501 mv_X9_go mv_X9_gov lk_L_62 hc2 rfl rfl (by decide) rfl (by decide) ⟨by decide, by decide⟩ (Nat.le_of_ble_eq_true rfl) ⟨Nat.le_refl _, Nat.le_refl _⟩ ?_
  exact LJ_icmp_eq 1257 dL_law_504 (by decide) (fun _ => hnext m2 P D T hG2) (fun hne => absurd rfl hne)
def OP_now (F : Nat) (G H : Mm → Nat → Nat → Option Nat → Prop) : Prop := ∀ (m : Mm) (P D : Nat) (T : Option Nat), G m P D T → ∀ (a1 : Int32), ∃ z m1, f_X8_now F m P a1 = some (z, m1) ∧ f_X9_now F m1 a1 = some z ∧ H m1 P D T
set_option maxHeartbeats 4000000 in
set_option maxRecDepth 100000 in
theorem lc_11 {F : Nat} {G H : Mm → Nat → Nat → Option Nat → Prop} {b L j : Nat} {xs : Nat → Int32} {m : Mm} {P D : Nat} {T : Option Nat} (hG : G m P D T) (hpl : isPl P ∧ isPl D) (hi1 : vp_in (nI j + 1) L) (hi2 : vp_in (nI j + 2) L) (hi3 : vp_in (nI j + 3) L) (hi4 : vp_in (nI j + 4) L) (hop : OP_now F G H) (hnext : ∀ m P D T, H m P D T → LJ b L xs 1257 [(0, .float 77), (1, .ref 0), (2, .ref 113), (3, .int (nI j))] [] 135 m (RF P D T)) : LJ b L xs 509 [(0, .float 77), (1, .ref 0), (2, .ref 113), (3, .int (nI j))] [] 135 m (RF P D T) := by
  obtain ⟨z, m1, hz1, hz2, hG2⟩ := hop m P D T hG (xs (nI j + 1).toNatClampNeg)
  refine LJ_aload_n 1 1 0 dL_law_509 rfl rfl ?_
  refine LJ_sload_n 0 0 77 dL_law_510 rfl rfl ?_
  refine LJ_iload_n 3 3 (nI j) dL_law_511 rfl rfl ?_
  refine LJ_iconst 1 dL_law_512 (by decide) ?_
  refine LJ_iadd dL_law_513 ?_
  refine LJ_sld dL_law_514 hi1 ?_
  have hc1 := ct_X8_now F (n := 135) (by decide) P D T hpl.1 m (xs (nI j + 1).toNatClampNeg)
  rw [hz1] at hc1
  refine LJ_callV 0 8 1 [.int (xs (nI j + 1).toNatClampNeg)] dL_law_515 mv_X8_now mv_X8_nowv lk_L_63 hc1 rfl rfl (by decide) rfl (by decide) ⟨by decide, by decide⟩ (Nat.le_of_ble_eq_true rfl) ⟨Nat.le_refl _, Nat.le_refl _⟩ ?_
  refine LJ_aload_n 2 2 113 dL_law_518 rfl rfl ?_
  refine LJ_sload_n 0 0 77 dL_law_519 rfl rfl ?_
  refine LJ_iload_n 3 3 (nI j) dL_law_520 rfl rfl ?_
  refine LJ_iconst 1 dL_law_521 (by decide) ?_
  refine LJ_iadd dL_law_522 ?_
  refine LJ_sld dL_law_523 hi1 ?_
  have hc2 := ct_X9_now F (n := 135) (by decide) P D T m1 (xs (nI j + 1).toNatClampNeg)
  rw [hz2] at hc2
  refine LJ_callV 113 9 1 [.int (xs (nI j + 1).toNatClampNeg)] dL_law_524 mv_X9_now mv_X9_nowv lk_L_66 hc2 rfl rfl (by decide) rfl (by decide) ⟨by decide, by decide⟩ (Nat.le_of_ble_eq_true rfl) ⟨Nat.le_refl _, Nat.le_refl _⟩ ?_
  exact LJ_icmp_eq 1257 dL_law_527 (by decide) (fun _ => hnext m1 P D T hG2) (fun hne => absurd rfl hne)
def OP_keep (F : Nat) (G H : Mm → Nat → Nat → Option Nat → Prop) : Prop := ∀ (m : Mm) (P D : Nat) (T : Option Nat), G m P D T → ∀ (a1 : Int32), ∃ z m1 m2, f_X8_keep m a1 = some (z, m1) ∧ f_X9_keep F m1 a1 = some (z, m2) ∧ H m2 P D T
set_option maxHeartbeats 4000000 in
set_option maxRecDepth 100000 in
theorem lc_12 {F : Nat} {G H : Mm → Nat → Nat → Option Nat → Prop} {b L j : Nat} {xs : Nat → Int32} {m : Mm} {P D : Nat} {T : Option Nat} (hG : G m P D T) (hpl : isPl P ∧ isPl D) (hi1 : vp_in (nI j + 1) L) (hi2 : vp_in (nI j + 2) L) (hi3 : vp_in (nI j + 3) L) (hi4 : vp_in (nI j + 4) L) (hop : OP_keep F G H) (hnext : ∀ m P D T, H m P D T → LJ b L xs 1257 [(0, .float 77), (1, .ref 0), (2, .ref 113), (3, .int (nI j))] [] 135 m (RF P D T)) : LJ b L xs 532 [(0, .float 77), (1, .ref 0), (2, .ref 113), (3, .int (nI j))] [] 135 m (RF P D T) := by
  obtain ⟨z, m1, m2, hz1, hz2, hG2⟩ := hop m P D T hG (xs (nI j + 1).toNatClampNeg)
  refine LJ_aload_n 1 1 0 dL_law_532 rfl rfl ?_
  refine LJ_sload_n 0 0 77 dL_law_533 rfl rfl ?_
  refine LJ_iload_n 3 3 (nI j) dL_law_534 rfl rfl ?_
  refine LJ_iconst 1 dL_law_535 (by decide) ?_
  refine LJ_iadd dL_law_536 ?_
  refine LJ_sld dL_law_537 hi1 ?_
  have hc1 := ct_X8_keep F (n := 135) (by decide) P D T m (xs (nI j + 1).toNatClampNeg)
  rw [hz1] at hc1
  refine LJ_callV 0 8 1 [.int (xs (nI j + 1).toNatClampNeg)] dL_law_538 mv_X8_keep mv_X8_keepv lk_L_67 hc1 rfl rfl (by decide) rfl (by decide) ⟨by decide, by decide⟩ (Nat.le_of_ble_eq_true rfl) ⟨Nat.le_refl _, Nat.le_refl _⟩ ?_
  refine LJ_aload_n 2 2 113 dL_law_541 rfl rfl ?_
  refine LJ_sload_n 0 0 77 dL_law_542 rfl rfl ?_
  refine LJ_iload_n 3 3 (nI j) dL_law_543 rfl rfl ?_
  refine LJ_iconst 1 dL_law_544 (by decide) ?_
  refine LJ_iadd dL_law_545 ?_
  refine LJ_sld dL_law_546 hi1 ?_
  have hc2 := ct_X9_keep F (n := 135) (by decide) P D T m1 (xs (nI j + 1).toNatClampNeg)
  rw [hz2] at hc2
  refine LJ_callV 113 9 1 [.int (xs (nI j + 1).toNatClampNeg)] dL_law_547 mv_X9_keep mv_X9_keepv lk_L_70 hc2 rfl rfl (by decide) rfl (by decide) ⟨by decide, by decide⟩ (Nat.le_of_ble_eq_true rfl) ⟨Nat.le_refl _, Nat.le_refl _⟩ ?_
  exact LJ_icmp_eq 1257 dL_law_550 (by decide) (fun _ => hnext m2 P D T hG2) (fun hne => absurd rfl hne)
def OP_back (F : Nat) (G H : Mm → Nat → Nat → Option Nat → Prop) : Prop := ∀ (m : Mm) (P D : Nat) (T : Option Nat), G m P D T → ∀ (a1 : Int32), ∃ z m1 m2, f_X8_back m a1 = some (z, m1) ∧ f_X9_back F m1 a1 = some (z, m2) ∧ H m2 P D T
set_option maxHeartbeats 4000000 in
set_option maxRecDepth 100000 in
theorem lc_13 {F : Nat} {G H : Mm → Nat → Nat → Option Nat → Prop} {b L j : Nat} {xs : Nat → Int32} {m : Mm} {P D : Nat} {T : Option Nat} (hG : G m P D T) (hpl : isPl P ∧ isPl D) (hi1 : vp_in (nI j + 1) L) (hi2 : vp_in (nI j + 2) L) (hi3 : vp_in (nI j + 3) L) (hi4 : vp_in (nI j + 4) L) (hop : OP_back F G H) (hnext : ∀ m P D T, H m P D T → LJ b L xs 1257 [(0, .float 77), (1, .ref 0), (2, .ref 113), (3, .int (nI j))] [] 135 m (RF P D T)) : LJ b L xs 555 [(0, .float 77), (1, .ref 0), (2, .ref 113), (3, .int (nI j))] [] 135 m (RF P D T) := by
  obtain ⟨z, m1, m2, hz1, hz2, hG2⟩ := hop m P D T hG (xs (nI j + 1).toNatClampNeg)
  refine LJ_aload_n 1 1 0 dL_law_555 rfl rfl ?_
  refine LJ_sload_n 0 0 77 dL_law_556 rfl rfl ?_
  refine LJ_iload_n 3 3 (nI j) dL_law_557 rfl rfl ?_
  refine LJ_iconst 1 dL_law_558 (by decide) ?_
  refine LJ_iadd dL_law_559 ?_
  refine LJ_sld dL_law_560 hi1 ?_
  have hc1 := ct_X8_back F (n := 135) (by decide) P D T m (xs (nI j + 1).toNatClampNeg)
  rw [hz1] at hc1
  refine LJ_callV 0 8 1 [.int (xs (nI j + 1).toNatClampNeg)] dL_law_561 mv_X8_back mv_X8_backv lk_L_71 hc1 rfl rfl (by decide) rfl (by decide) ⟨by decide, by decide⟩ (Nat.le_of_ble_eq_true rfl) ⟨Nat.le_refl _, Nat.le_refl _⟩ ?_
  refine LJ_aload_n 2 2 113 dL_law_564 rfl rfl ?_
  refine LJ_sload_n 0 0 77 dL_law_565 rfl rfl ?_
  refine LJ_iload_n 3 3 (nI j) dL_law_566 rfl rfl ?_
  refine LJ_iconst 1 dL_law_567 (by decide) ?_
  refine LJ_iadd dL_law_568 ?_
  refine LJ_sld dL_law_569 hi1 ?_
  have hc2 := ct_X9_back F (n := 135) (by decide) P D T m1 (xs (nI j + 1).toNatClampNeg)
  rw [hz2] at hc2
  refine LJ_callV 113 9 1 [.int (xs (nI j + 1).toNatClampNeg)] dL_law_570 mv_X9_back mv_X9_backv lk_L_74 hc2 rfl rfl (by decide) rfl (by decide) ⟨by decide, by decide⟩ (Nat.le_of_ble_eq_true rfl) ⟨Nat.le_refl _, Nat.le_refl _⟩ ?_
  exact LJ_icmp_eq 1257 dL_law_573 (by decide) (fun _ => hnext m2 P D T hG2) (fun hne => absurd rfl hne)
def OP_order (F : Nat) (G H : Mm → Nat → Nat → Option Nat → Prop) : Prop := ∀ (m : Mm) (P D : Nat) (T : Option Nat), G m P D T → ∀ (a1 : Int32) (a2 : Int32) (a3 : Int32) (a4 : Int32), ∃ z m1 m2, f_X8_order m P a1 a2 a3 a4 = some (z, m1) ∧ f_X9_order m1 a1 a2 a3 a4 = some (z, m2) ∧ H m2 P D T
set_option maxHeartbeats 4000000 in
set_option maxRecDepth 100000 in
theorem lc_14 {F : Nat} {G H : Mm → Nat → Nat → Option Nat → Prop} {b L j : Nat} {xs : Nat → Int32} {m : Mm} {P D : Nat} {T : Option Nat} (hG : G m P D T) (hpl : isPl P ∧ isPl D) (hi1 : vp_in (nI j + 1) L) (hi2 : vp_in (nI j + 2) L) (hi3 : vp_in (nI j + 3) L) (hi4 : vp_in (nI j + 4) L) (hop : OP_order F G H) (hnext : ∀ m P D T, H m P D T → LJ b L xs 1257 [(0, .float 77), (1, .ref 0), (2, .ref 113), (3, .int (nI j))] [] 135 m (RF P D T)) : LJ b L xs 578 [(0, .float 77), (1, .ref 0), (2, .ref 113), (3, .int (nI j))] [] 135 m (RF P D T) := by
  obtain ⟨z, m1, m2, hz1, hz2, hG2⟩ := hop m P D T hG (xs (nI j + 1).toNatClampNeg) (xs (nI j + 2).toNatClampNeg) (xs (nI j + 3).toNatClampNeg) (xs (nI j + 4).toNatClampNeg)
  refine LJ_aload_n 1 1 0 dL_law_578 rfl rfl ?_
  refine LJ_sload_n 0 0 77 dL_law_579 rfl rfl ?_
  refine LJ_iload_n 3 3 (nI j) dL_law_580 rfl rfl ?_
  refine LJ_iconst 1 dL_law_581 (by decide) ?_
  refine LJ_iadd dL_law_582 ?_
  refine LJ_sld dL_law_583 hi1 ?_
  refine LJ_sload_n 0 0 77 dL_law_584 rfl rfl ?_
  refine LJ_iload_n 3 3 (nI j) dL_law_585 rfl rfl ?_
  refine LJ_iconst 2 dL_law_586 (by decide) ?_
  refine LJ_iadd dL_law_587 ?_
  refine LJ_sld dL_law_588 hi2 ?_
  refine LJ_sload_n 0 0 77 dL_law_589 rfl rfl ?_
  refine LJ_iload_n 3 3 (nI j) dL_law_590 rfl rfl ?_
  refine LJ_iconst 3 dL_law_591 (by decide) ?_
  refine LJ_iadd dL_law_592 ?_
  refine LJ_sld dL_law_593 hi3 ?_
  refine LJ_sload_n 0 0 77 dL_law_594 rfl rfl ?_
  refine LJ_iload_n 3 3 (nI j) dL_law_595 rfl rfl ?_
  refine LJ_iconst 4 dL_law_596 (by decide) ?_
  refine LJ_iadd dL_law_597 ?_
  refine LJ_sld dL_law_598 hi4 ?_
  have hc1 := ct_X8_order F (n := 135) (by decide) P D T hpl.1 m (xs (nI j + 1).toNatClampNeg) (xs (nI j + 2).toNatClampNeg) (xs (nI j + 3).toNatClampNeg) (xs (nI j + 4).toNatClampNeg)
  rw [hz1] at hc1
  refine LJ_callV 0 8 4 [.int (xs (nI j + 1).toNatClampNeg), .int (xs (nI j + 2).toNatClampNeg), .int (xs (nI j + 3).toNatClampNeg), .int (xs (nI j + 4).toNatClampNeg)] dL_law_599 mv_X8_order mv_X8_orderv lk_L_75 hc1 rfl rfl (by decide) rfl (by decide) ⟨by decide, by decide⟩ (Nat.le_of_ble_eq_true rfl) ⟨Nat.le_refl _, Nat.le_refl _⟩ ?_
  refine LJ_aload_n 2 2 113 dL_law_602 rfl rfl ?_
  refine LJ_sload_n 0 0 77 dL_law_603 rfl rfl ?_
  refine LJ_iload_n 3 3 (nI j) dL_law_604 rfl rfl ?_
  refine LJ_iconst 1 dL_law_605 (by decide) ?_
  refine LJ_iadd dL_law_606 ?_
  refine LJ_sld dL_law_607 hi1 ?_
  refine LJ_sload_n 0 0 77 dL_law_608 rfl rfl ?_
  refine LJ_iload_n 3 3 (nI j) dL_law_609 rfl rfl ?_
  refine LJ_iconst 2 dL_law_610 (by decide) ?_
  refine LJ_iadd dL_law_611 ?_
  refine LJ_sld dL_law_612 hi2 ?_
  refine LJ_sload_n 0 0 77 dL_law_613 rfl rfl ?_
  refine LJ_iload_n 3 3 (nI j) dL_law_614 rfl rfl ?_
  refine LJ_iconst 3 dL_law_615 (by decide) ?_
  refine LJ_iadd dL_law_616 ?_
  refine LJ_sld dL_law_617 hi3 ?_
  refine LJ_sload_n 0 0 77 dL_law_618 rfl rfl ?_
  refine LJ_iload_n 3 3 (nI j) dL_law_619 rfl rfl ?_
  refine LJ_iconst 4 dL_law_620 (by decide) ?_
  refine LJ_iadd dL_law_621 ?_
  refine LJ_sld dL_law_622 hi4 ?_
  have hc2 := ct_X9_order F (n := 135) (by decide) P D T m1 (xs (nI j + 1).toNatClampNeg) (xs (nI j + 2).toNatClampNeg) (xs (nI j + 3).toNatClampNeg) (xs (nI j + 4).toNatClampNeg)
  rw [hz2] at hc2
  refine LJ_callV 113 9 4 [.int (xs (nI j + 1).toNatClampNeg), .int (xs (nI j + 2).toNatClampNeg), .int (xs (nI j + 3).toNatClampNeg), .int (xs (nI j + 4).toNatClampNeg)] dL_law_623 mv_X9_order mv_X9_orderv lk_L_79 hc2 rfl rfl (by decide) rfl (by decide) ⟨by decide, by decide⟩ (Nat.le_of_ble_eq_true rfl) ⟨Nat.le_refl _, Nat.le_refl _⟩ ?_
  exact LJ_icmp_eq 1257 dL_law_626 (by decide) (fun _ => hnext m2 P D T hG2) (fun hne => absurd rfl hne)
def OP_given (F : Nat) (G H : Mm → Nat → Nat → Option Nat → Prop) : Prop := ∀ (m : Mm) (P D : Nat) (T : Option Nat), G m P D T → ∀ (a1 : Int32) (a2 : Int32), ∃ z, f_X8_given m a1 a2 = some z ∧ f_X9_given m a1 a2 = some z ∧ H m P D T
set_option maxHeartbeats 4000000 in
set_option maxRecDepth 100000 in
theorem lc_15 {F : Nat} {G H : Mm → Nat → Nat → Option Nat → Prop} {b L j : Nat} {xs : Nat → Int32} {m : Mm} {P D : Nat} {T : Option Nat} (hG : G m P D T) (hpl : isPl P ∧ isPl D) (hi1 : vp_in (nI j + 1) L) (hi2 : vp_in (nI j + 2) L) (hi3 : vp_in (nI j + 3) L) (hi4 : vp_in (nI j + 4) L) (hop : OP_given F G H) (hnext : ∀ m P D T, H m P D T → LJ b L xs 1257 [(0, .float 77), (1, .ref 0), (2, .ref 113), (3, .int (nI j))] [] 135 m (RF P D T)) : LJ b L xs 631 [(0, .float 77), (1, .ref 0), (2, .ref 113), (3, .int (nI j))] [] 135 m (RF P D T) := by
  obtain ⟨z, hz1, hz2, hG2⟩ := hop m P D T hG (xs (nI j + 1).toNatClampNeg) (xs (nI j + 2).toNatClampNeg)
  refine LJ_aload_n 1 1 0 dL_law_631 rfl rfl ?_
  refine LJ_sload_n 0 0 77 dL_law_632 rfl rfl ?_
  refine LJ_iload_n 3 3 (nI j) dL_law_633 rfl rfl ?_
  refine LJ_iconst 1 dL_law_634 (by decide) ?_
  refine LJ_iadd dL_law_635 ?_
  refine LJ_sld dL_law_636 hi1 ?_
  refine LJ_sload_n 0 0 77 dL_law_637 rfl rfl ?_
  refine LJ_iload_n 3 3 (nI j) dL_law_638 rfl rfl ?_
  refine LJ_iconst 2 dL_law_639 (by decide) ?_
  refine LJ_iadd dL_law_640 ?_
  refine LJ_sld dL_law_641 hi2 ?_
  have hc1 := ct_X8_given F (n := 135) (by decide) P D T m (xs (nI j + 1).toNatClampNeg) (xs (nI j + 2).toNatClampNeg)
  rw [hz1] at hc1
  refine LJ_callV 0 8 2 [.int (xs (nI j + 1).toNatClampNeg), .int (xs (nI j + 2).toNatClampNeg)] dL_law_642 mv_X8_given mv_X8_givenv lk_L_80 hc1 rfl rfl (by decide) rfl (by decide) ⟨by decide, by decide⟩ (Nat.le_of_ble_eq_true rfl) ⟨Nat.le_refl _, Nat.le_refl _⟩ ?_
  refine LJ_aload_n 2 2 113 dL_law_645 rfl rfl ?_
  refine LJ_sload_n 0 0 77 dL_law_646 rfl rfl ?_
  refine LJ_iload_n 3 3 (nI j) dL_law_647 rfl rfl ?_
  refine LJ_iconst 1 dL_law_648 (by decide) ?_
  refine LJ_iadd dL_law_649 ?_
  refine LJ_sld dL_law_650 hi1 ?_
  refine LJ_sload_n 0 0 77 dL_law_651 rfl rfl ?_
  refine LJ_iload_n 3 3 (nI j) dL_law_652 rfl rfl ?_
  refine LJ_iconst 2 dL_law_653 (by decide) ?_
  refine LJ_iadd dL_law_654 ?_
  refine LJ_sld dL_law_655 hi2 ?_
  have hc2 := ct_X9_given F (n := 135) (by decide) P D T m (xs (nI j + 1).toNatClampNeg) (xs (nI j + 2).toNatClampNeg)
  rw [hz2] at hc2
  refine LJ_callV 113 9 2 [.int (xs (nI j + 1).toNatClampNeg), .int (xs (nI j + 2).toNatClampNeg)] dL_law_656 mv_X9_given mv_X9_givenv lk_L_83 hc2 rfl rfl (by decide) rfl (by decide) ⟨by decide, by decide⟩ (Nat.le_of_ble_eq_true rfl) ⟨Nat.le_refl _, Nat.le_refl _⟩ ?_
  exact LJ_icmp_eq 1257 dL_law_659 (by decide) (fun _ => hnext m P D T hG2) (fun hne => absurd rfl hne)
def OP_recall (F : Nat) (G H : Mm → Nat → Nat → Option Nat → Prop) : Prop := ∀ (m : Mm) (P D : Nat) (T : Option Nat), G m P D T → ∃ z m1 m2, f_X8_recall F m = some (z, m1) ∧ f_X9_recall F m1 = some (z, m2) ∧ H m2 P D T
set_option maxHeartbeats 4000000 in
set_option maxRecDepth 100000 in
theorem lc_16 {F : Nat} {G H : Mm → Nat → Nat → Option Nat → Prop} {b L j : Nat} {xs : Nat → Int32} {m : Mm} {P D : Nat} {T : Option Nat} (hG : G m P D T) (hpl : isPl P ∧ isPl D) (hi1 : vp_in (nI j + 1) L) (hi2 : vp_in (nI j + 2) L) (hi3 : vp_in (nI j + 3) L) (hi4 : vp_in (nI j + 4) L) (hop : OP_recall F G H) (hnext : ∀ m P D T, H m P D T → LJ b L xs 1257 [(0, .float 77), (1, .ref 0), (2, .ref 113), (3, .int (nI j))] [] 135 m (RF P D T)) : LJ b L xs 664 [(0, .float 77), (1, .ref 0), (2, .ref 113), (3, .int (nI j))] [] 135 m (RF P D T) := by
  obtain ⟨z, m1, m2, hz1, hz2, hG2⟩ := hop m P D T hG 
  refine LJ_aload_n 1 1 0 dL_law_664 rfl rfl ?_
  have hc1 := ct_X8_recall F (n := 135) (by decide) P D T m 
  rw [hz1] at hc1
  refine LJ_callV 0 8 0 [] dL_law_665 mv_X8_recall mv_X8_recallv lk_L_84 hc1 rfl rfl (by decide) rfl (by decide) ⟨by decide, by decide⟩ (Nat.le_of_ble_eq_true rfl) ⟨Nat.le_refl _, Nat.le_refl _⟩ ?_
  refine LJ_aload_n 2 2 113 dL_law_668 rfl rfl ?_
  have hc2 := ct_X9_recall F (n := 135) (by decide) P D T m1 
  rw [hz2] at hc2
  refine LJ_callV 113 9 0 [] dL_law_669 mv_X9_recall mv_X9_recallv lk_L_87 hc2 rfl rfl (by decide) rfl (by decide) ⟨by decide, by decide⟩ (Nat.le_of_ble_eq_true rfl) ⟨Nat.le_refl _, Nat.le_refl _⟩ ?_
  exact LJ_icmp_eq 1257 dL_law_672 (by decide) (fun _ => hnext m2 P D T hG2) (fun hne => absurd rfl hne)
def OP_run (F : Nat) (G H : Mm → Nat → Nat → Option Nat → Prop) : Prop := ∀ (m : Mm) (P D : Nat) (T : Option Nat), G m P D T → ∀ (a1 : Int32) (a2 : Int32), ∃ z m1 m2, f_X8_run F m P a1 a2 = some (z, m1) ∧ f_X9_run F m1 a1 a2 = some (z, m2) ∧ H m2 P D T
set_option maxHeartbeats 4000000 in
set_option maxRecDepth 100000 in
theorem lc_17 {F : Nat} {G H : Mm → Nat → Nat → Option Nat → Prop} {b L j : Nat} {xs : Nat → Int32} {m : Mm} {P D : Nat} {T : Option Nat} (hG : G m P D T) (hpl : isPl P ∧ isPl D) (hi1 : vp_in (nI j + 1) L) (hi2 : vp_in (nI j + 2) L) (hi3 : vp_in (nI j + 3) L) (hi4 : vp_in (nI j + 4) L) (hop : OP_run F G H) (hnext : ∀ m P D T, H m P D T → LJ b L xs 1257 [(0, .float 77), (1, .ref 0), (2, .ref 113), (3, .int (nI j))] [] 135 m (RF P D T)) : LJ b L xs 677 [(0, .float 77), (1, .ref 0), (2, .ref 113), (3, .int (nI j))] [] 135 m (RF P D T) := by
  obtain ⟨z, m1, m2, hz1, hz2, hG2⟩ := hop m P D T hG (xs (nI j + 1).toNatClampNeg) (xs (nI j + 2).toNatClampNeg)
  refine LJ_aload_n 1 1 0 dL_law_677 rfl rfl ?_
  refine LJ_sload_n 0 0 77 dL_law_678 rfl rfl ?_
  refine LJ_iload_n 3 3 (nI j) dL_law_679 rfl rfl ?_
  refine LJ_iconst 1 dL_law_680 (by decide) ?_
  refine LJ_iadd dL_law_681 ?_
  refine LJ_sld dL_law_682 hi1 ?_
  refine LJ_sload_n 0 0 77 dL_law_683 rfl rfl ?_
  refine LJ_iload_n 3 3 (nI j) dL_law_684 rfl rfl ?_
  refine LJ_iconst 2 dL_law_685 (by decide) ?_
  refine LJ_iadd dL_law_686 ?_
  refine LJ_sld dL_law_687 hi2 ?_
  have hc1 := ct_X8_run F (n := 135) (by decide) P D T hpl.1 m (xs (nI j + 1).toNatClampNeg) (xs (nI j + 2).toNatClampNeg)
  rw [hz1] at hc1
  refine LJ_callV 0 8 2 [.int (xs (nI j + 1).toNatClampNeg), .int (xs (nI j + 2).toNatClampNeg)] dL_law_688 mv_X8_run mv_X8_runv lk_L_88 hc1 rfl rfl (by decide) rfl (by decide) ⟨by decide, by decide⟩ (Nat.le_of_ble_eq_true rfl) ⟨Nat.le_refl _, Nat.le_refl _⟩ ?_
  refine LJ_aload_n 2 2 113 dL_law_691 rfl rfl ?_
  refine LJ_sload_n 0 0 77 dL_law_692 rfl rfl ?_
  refine LJ_iload_n 3 3 (nI j) dL_law_693 rfl rfl ?_
  refine LJ_iconst 1 dL_law_694 (by decide) ?_
  refine LJ_iadd dL_law_695 ?_
  refine LJ_sld dL_law_696 hi1 ?_
  refine LJ_sload_n 0 0 77 dL_law_697 rfl rfl ?_
  refine LJ_iload_n 3 3 (nI j) dL_law_698 rfl rfl ?_
  refine LJ_iconst 2 dL_law_699 (by decide) ?_
  refine LJ_iadd dL_law_700 ?_
  refine LJ_sld dL_law_701 hi2 ?_
  have hc2 := ct_X9_run F (n := 135) (by decide) P D T m1 (xs (nI j + 1).toNatClampNeg) (xs (nI j + 2).toNatClampNeg)
  rw [hz2] at hc2
  refine LJ_callV 113 9 2 [.int (xs (nI j + 1).toNatClampNeg), .int (xs (nI j + 2).toNatClampNeg)] dL_law_702 mv_X9_run mv_X9_runv lk_L_91 hc2 rfl rfl (by decide) rfl (by decide) ⟨by decide, by decide⟩ (Nat.le_of_ble_eq_true rfl) ⟨Nat.le_refl _, Nat.le_refl _⟩ ?_
  exact LJ_icmp_eq 1257 dL_law_705 (by decide) (fun _ => hnext m2 P D T hG2) (fun hne => absurd rfl hne)
def OP_water (F : Nat) (G H : Mm → Nat → Nat → Option Nat → Prop) : Prop := ∀ (m : Mm) (P D : Nat) (T : Option Nat), G m P D T → ∀ (a1 : Int32) (a2 : Int32), ∃ z m1 m2, f_X8_water F m P a1 a2 = some (z, m1) ∧ f_X9_water F m1 a1 a2 = some (z, m2) ∧ H m2 P D T
set_option maxHeartbeats 4000000 in
set_option maxRecDepth 100000 in
theorem lc_18 {F : Nat} {G H : Mm → Nat → Nat → Option Nat → Prop} {b L j : Nat} {xs : Nat → Int32} {m : Mm} {P D : Nat} {T : Option Nat} (hG : G m P D T) (hpl : isPl P ∧ isPl D) (hi1 : vp_in (nI j + 1) L) (hi2 : vp_in (nI j + 2) L) (hi3 : vp_in (nI j + 3) L) (hi4 : vp_in (nI j + 4) L) (hop : OP_water F G H) (hnext : ∀ m P D T, H m P D T → LJ b L xs 1257 [(0, .float 77), (1, .ref 0), (2, .ref 113), (3, .int (nI j))] [] 135 m (RF P D T)) : LJ b L xs 710 [(0, .float 77), (1, .ref 0), (2, .ref 113), (3, .int (nI j))] [] 135 m (RF P D T) := by
  obtain ⟨z, m1, m2, hz1, hz2, hG2⟩ := hop m P D T hG (xs (nI j + 1).toNatClampNeg) (xs (nI j + 2).toNatClampNeg)
  refine LJ_aload_n 1 1 0 dL_law_710 rfl rfl ?_
  refine LJ_sload_n 0 0 77 dL_law_711 rfl rfl ?_
  refine LJ_iload_n 3 3 (nI j) dL_law_712 rfl rfl ?_
  refine LJ_iconst 1 dL_law_713 (by decide) ?_
  refine LJ_iadd dL_law_714 ?_
  refine LJ_sld dL_law_715 hi1 ?_
  refine LJ_sload_n 0 0 77 dL_law_716 rfl rfl ?_
  refine LJ_iload_n 3 3 (nI j) dL_law_717 rfl rfl ?_
  refine LJ_iconst 2 dL_law_718 (by decide) ?_
  refine LJ_iadd dL_law_719 ?_
  refine LJ_sld dL_law_720 hi2 ?_
  have hc1 := ct_X8_water F (n := 135) (by decide) P D T hpl.1 m (xs (nI j + 1).toNatClampNeg) (xs (nI j + 2).toNatClampNeg)
  rw [hz1] at hc1
  refine LJ_callV 0 8 2 [.int (xs (nI j + 1).toNatClampNeg), .int (xs (nI j + 2).toNatClampNeg)] dL_law_721 mv_X8_water mv_X8_waterv lk_L_92 hc1 rfl rfl (by decide) rfl (by decide) ⟨by decide, by decide⟩ (Nat.le_of_ble_eq_true rfl) ⟨Nat.le_refl _, Nat.le_refl _⟩ ?_
  refine LJ_aload_n 2 2 113 dL_law_724 rfl rfl ?_
  refine LJ_sload_n 0 0 77 dL_law_725 rfl rfl ?_
  refine LJ_iload_n 3 3 (nI j) dL_law_726 rfl rfl ?_
  refine LJ_iconst 1 dL_law_727 (by decide) ?_
  refine LJ_iadd dL_law_728 ?_
  refine LJ_sld dL_law_729 hi1 ?_
  refine LJ_sload_n 0 0 77 dL_law_730 rfl rfl ?_
  refine LJ_iload_n 3 3 (nI j) dL_law_731 rfl rfl ?_
  refine LJ_iconst 2 dL_law_732 (by decide) ?_
  refine LJ_iadd dL_law_733 ?_
  refine LJ_sld dL_law_734 hi2 ?_
  have hc2 := ct_X9_water F (n := 135) (by decide) P D T m1 (xs (nI j + 1).toNatClampNeg) (xs (nI j + 2).toNatClampNeg)
  rw [hz2] at hc2
  refine LJ_callV 113 9 2 [.int (xs (nI j + 1).toNatClampNeg), .int (xs (nI j + 2).toNatClampNeg)] dL_law_735 mv_X9_water mv_X9_waterv lk_L_95 hc2 rfl rfl (by decide) rfl (by decide) ⟨by decide, by decide⟩ (Nat.le_of_ble_eq_true rfl) ⟨Nat.le_refl _, Nat.le_refl _⟩ ?_
  exact LJ_icmp_eq 1257 dL_law_738 (by decide) (fun _ => hnext m2 P D T hG2) (fun hne => absurd rfl hne)
def OP_free (F : Nat) (G H : Mm → Nat → Nat → Option Nat → Prop) : Prop := ∀ (m : Mm) (P D : Nat) (T : Option Nat), G m P D T → ∀ (a1 : Int32), ∃ z m1 m2, f_X8_free F m P a1 = some (z, m1) ∧ f_X9_free F m1 a1 = some (z, m2) ∧ H m2 P D T
set_option maxHeartbeats 4000000 in
set_option maxRecDepth 100000 in
theorem lc_19 {F : Nat} {G H : Mm → Nat → Nat → Option Nat → Prop} {b L j : Nat} {xs : Nat → Int32} {m : Mm} {P D : Nat} {T : Option Nat} (hG : G m P D T) (hpl : isPl P ∧ isPl D) (hi1 : vp_in (nI j + 1) L) (hi2 : vp_in (nI j + 2) L) (hi3 : vp_in (nI j + 3) L) (hi4 : vp_in (nI j + 4) L) (hop : OP_free F G H) (hnext : ∀ m P D T, H m P D T → LJ b L xs 1257 [(0, .float 77), (1, .ref 0), (2, .ref 113), (3, .int (nI j))] [] 135 m (RF P D T)) : LJ b L xs 743 [(0, .float 77), (1, .ref 0), (2, .ref 113), (3, .int (nI j))] [] 135 m (RF P D T) := by
  obtain ⟨z, m1, m2, hz1, hz2, hG2⟩ := hop m P D T hG (xs (nI j + 1).toNatClampNeg)
  refine LJ_aload_n 1 1 0 dL_law_743 rfl rfl ?_
  refine LJ_sload_n 0 0 77 dL_law_744 rfl rfl ?_
  refine LJ_iload_n 3 3 (nI j) dL_law_745 rfl rfl ?_
  refine LJ_iconst 1 dL_law_746 (by decide) ?_
  refine LJ_iadd dL_law_747 ?_
  refine LJ_sld dL_law_748 hi1 ?_
  have hc1 := ct_X8_free F (n := 135) (by decide) P D T hpl.1 m (xs (nI j + 1).toNatClampNeg)
  rw [hz1] at hc1
  refine LJ_callV 0 8 1 [.int (xs (nI j + 1).toNatClampNeg)] dL_law_749 mv_X8_free mv_X8_freev lk_L_96 hc1 rfl rfl (by decide) rfl (by decide) ⟨by decide, by decide⟩ (Nat.le_of_ble_eq_true rfl) ⟨Nat.le_refl _, Nat.le_refl _⟩ ?_
  refine LJ_aload_n 2 2 113 dL_law_752 rfl rfl ?_
  refine LJ_sload_n 0 0 77 dL_law_753 rfl rfl ?_
  refine LJ_iload_n 3 3 (nI j) dL_law_754 rfl rfl ?_
  refine LJ_iconst 1 dL_law_755 (by decide) ?_
  refine LJ_iadd dL_law_756 ?_
  refine LJ_sld dL_law_757 hi1 ?_
  have hc2 := ct_X9_free F (n := 135) (by decide) P D T m1 (xs (nI j + 1).toNatClampNeg)
  rw [hz2] at hc2
  refine LJ_callV 113 9 1 [.int (xs (nI j + 1).toNatClampNeg)] dL_law_758 mv_X9_free mv_X9_freev lk_L_99 hc2 rfl rfl (by decide) rfl (by decide) ⟨by decide, by decide⟩ (Nat.le_of_ble_eq_true rfl) ⟨Nat.le_refl _, Nat.le_refl _⟩ ?_
  exact LJ_icmp_eq 1257 dL_law_761 (by decide) (fun _ => hnext m2 P D T hG2) (fun hne => absurd rfl hne)
def OP_best (F : Nat) (G H : Mm → Nat → Nat → Option Nat → Prop) : Prop := ∀ (m : Mm) (P D : Nat) (T : Option Nat), G m P D T → ∀ (a1 : Int32) (a2 : Int32) (a3 : Int32), ∃ z m1 m2, f_X8_best F m P a1 a2 a3 = some (z, m1) ∧ f_X9_best F m1 a1 a2 a3 = some (z, m2) ∧ H m2 P D T
set_option maxHeartbeats 4000000 in
set_option maxRecDepth 100000 in
theorem lc_20 {F : Nat} {G H : Mm → Nat → Nat → Option Nat → Prop} {b L j : Nat} {xs : Nat → Int32} {m : Mm} {P D : Nat} {T : Option Nat} (hG : G m P D T) (hpl : isPl P ∧ isPl D) (hi1 : vp_in (nI j + 1) L) (hi2 : vp_in (nI j + 2) L) (hi3 : vp_in (nI j + 3) L) (hi4 : vp_in (nI j + 4) L) (hop : OP_best F G H) (hnext : ∀ m P D T, H m P D T → LJ b L xs 1257 [(0, .float 77), (1, .ref 0), (2, .ref 113), (3, .int (nI j))] [] 135 m (RF P D T)) : LJ b L xs 766 [(0, .float 77), (1, .ref 0), (2, .ref 113), (3, .int (nI j))] [] 135 m (RF P D T) := by
  obtain ⟨z, m1, m2, hz1, hz2, hG2⟩ := hop m P D T hG (xs (nI j + 1).toNatClampNeg) (xs (nI j + 2).toNatClampNeg) (xs (nI j + 3).toNatClampNeg)
  refine LJ_aload_n 1 1 0 dL_law_766 rfl rfl ?_
  refine LJ_sload_n 0 0 77 dL_law_767 rfl rfl ?_
  refine LJ_iload_n 3 3 (nI j) dL_law_768 rfl rfl ?_
  refine LJ_iconst 1 dL_law_769 (by decide) ?_
  refine LJ_iadd dL_law_770 ?_
  refine LJ_sld dL_law_771 hi1 ?_
  refine LJ_sload_n 0 0 77 dL_law_772 rfl rfl ?_
  refine LJ_iload_n 3 3 (nI j) dL_law_773 rfl rfl ?_
  refine LJ_iconst 2 dL_law_774 (by decide) ?_
  refine LJ_iadd dL_law_775 ?_
  refine LJ_sld dL_law_776 hi2 ?_
  refine LJ_sload_n 0 0 77 dL_law_777 rfl rfl ?_
  refine LJ_iload_n 3 3 (nI j) dL_law_778 rfl rfl ?_
  refine LJ_iconst 3 dL_law_779 (by decide) ?_
  refine LJ_iadd dL_law_780 ?_
  refine LJ_sld dL_law_781 hi3 ?_
  have hc1 := ct_X8_best F (n := 135) (by decide) P D T hpl.1 m (xs (nI j + 1).toNatClampNeg) (xs (nI j + 2).toNatClampNeg) (xs (nI j + 3).toNatClampNeg)
  rw [hz1] at hc1
  refine LJ_callV 0 8 3 [.int (xs (nI j + 1).toNatClampNeg), .int (xs (nI j + 2).toNatClampNeg), .int (xs (nI j + 3).toNatClampNeg)] dL_law_782 mv_X8_best mv_X8_bestv lk_L_100 hc1 rfl rfl (by decide) rfl (by decide) ⟨by decide, by decide⟩ (Nat.le_of_ble_eq_true rfl) ⟨Nat.le_refl _, Nat.le_refl _⟩ ?_
  refine LJ_aload_n 2 2 113 dL_law_785 rfl rfl ?_
  refine LJ_sload_n 0 0 77 dL_law_786 rfl rfl ?_
  refine LJ_iload_n 3 3 (nI j) dL_law_787 rfl rfl ?_
  refine LJ_iconst 1 dL_law_788 (by decide) ?_
  refine LJ_iadd dL_law_789 ?_
  refine LJ_sld dL_law_790 hi1 ?_
  refine LJ_sload_n 0 0 77 dL_law_791 rfl rfl ?_
  refine LJ_iload_n 3 3 (nI j) dL_law_792 rfl rfl ?_
  refine LJ_iconst 2 dL_law_793 (by decide) ?_
  refine LJ_iadd dL_law_794 ?_
  refine LJ_sld dL_law_795 hi2 ?_
  refine LJ_sload_n 0 0 77 dL_law_796 rfl rfl ?_
  refine LJ_iload_n 3 3 (nI j) dL_law_797 rfl rfl ?_
  refine LJ_iconst 3 dL_law_798 (by decide) ?_
  refine LJ_iadd dL_law_799 ?_
  refine LJ_sld dL_law_800 hi3 ?_
  have hc2 := ct_X9_best F (n := 135) (by decide) P D T m1 (xs (nI j + 1).toNatClampNeg) (xs (nI j + 2).toNatClampNeg) (xs (nI j + 3).toNatClampNeg)
  rw [hz2] at hc2
  refine LJ_callV 113 9 3 [.int (xs (nI j + 1).toNatClampNeg), .int (xs (nI j + 2).toNatClampNeg), .int (xs (nI j + 3).toNatClampNeg)] dL_law_801 mv_X9_best mv_X9_bestv lk_L_104 hc2 rfl rfl (by decide) rfl (by decide) ⟨by decide, by decide⟩ (Nat.le_of_ble_eq_true rfl) ⟨Nat.le_refl _, Nat.le_refl _⟩ ?_
  exact LJ_icmp_eq 1257 dL_law_804 (by decide) (fun _ => hnext m2 P D T hG2) (fun hne => absurd rfl hne)
def OP_latest (F : Nat) (G H : Mm → Nat → Nat → Option Nat → Prop) : Prop := ∀ (m : Mm) (P D : Nat) (T : Option Nat), G m P D T → ∀ (a1 : Int32) (a2 : Int32), ∃ z m1 m2, f_X8_latest F m P a1 a2 = some (z, m1) ∧ f_X9_latest F m1 a1 a2 = some (z, m2) ∧ H m2 P D T
set_option maxHeartbeats 4000000 in
set_option maxRecDepth 100000 in
theorem lc_21 {F : Nat} {G H : Mm → Nat → Nat → Option Nat → Prop} {b L j : Nat} {xs : Nat → Int32} {m : Mm} {P D : Nat} {T : Option Nat} (hG : G m P D T) (hpl : isPl P ∧ isPl D) (hi1 : vp_in (nI j + 1) L) (hi2 : vp_in (nI j + 2) L) (hi3 : vp_in (nI j + 3) L) (hi4 : vp_in (nI j + 4) L) (hop : OP_latest F G H) (hnext : ∀ m P D T, H m P D T → LJ b L xs 1257 [(0, .float 77), (1, .ref 0), (2, .ref 113), (3, .int (nI j))] [] 135 m (RF P D T)) : LJ b L xs 809 [(0, .float 77), (1, .ref 0), (2, .ref 113), (3, .int (nI j))] [] 135 m (RF P D T) := by
  obtain ⟨z, m1, m2, hz1, hz2, hG2⟩ := hop m P D T hG (xs (nI j + 1).toNatClampNeg) (xs (nI j + 2).toNatClampNeg)
  refine LJ_aload_n 1 1 0 dL_law_809 rfl rfl ?_
  refine LJ_sload_n 0 0 77 dL_law_810 rfl rfl ?_
  refine LJ_iload_n 3 3 (nI j) dL_law_811 rfl rfl ?_
  refine LJ_iconst 1 dL_law_812 (by decide) ?_
  refine LJ_iadd dL_law_813 ?_
  refine LJ_sld dL_law_814 hi1 ?_
  refine LJ_sload_n 0 0 77 dL_law_815 rfl rfl ?_
  refine LJ_iload_n 3 3 (nI j) dL_law_816 rfl rfl ?_
  refine LJ_iconst 2 dL_law_817 (by decide) ?_
  refine LJ_iadd dL_law_818 ?_
  refine LJ_sld dL_law_819 hi2 ?_
  have hc1 := ct_X8_latest F (n := 135) (by decide) P D T hpl.1 m (xs (nI j + 1).toNatClampNeg) (xs (nI j + 2).toNatClampNeg)
  rw [hz1] at hc1
  refine LJ_callV 0 8 2 [.int (xs (nI j + 1).toNatClampNeg), .int (xs (nI j + 2).toNatClampNeg)] dL_law_820 mv_X8_latest mv_X8_latestv lk_L_105 hc1 rfl rfl (by decide) rfl (by decide) ⟨by decide, by decide⟩ (Nat.le_of_ble_eq_true rfl) ⟨Nat.le_refl _, Nat.le_refl _⟩ ?_
  refine LJ_aload_n 2 2 113 dL_law_823 rfl rfl ?_
  refine LJ_sload_n 0 0 77 dL_law_824 rfl rfl ?_
  refine LJ_iload_n 3 3 (nI j) dL_law_825 rfl rfl ?_
  refine LJ_iconst 1 dL_law_826 (by decide) ?_
  refine LJ_iadd dL_law_827 ?_
  refine LJ_sld dL_law_828 hi1 ?_
  refine LJ_sload_n 0 0 77 dL_law_829 rfl rfl ?_
  refine LJ_iload_n 3 3 (nI j) dL_law_830 rfl rfl ?_
  refine LJ_iconst 2 dL_law_831 (by decide) ?_
  refine LJ_iadd dL_law_832 ?_
  refine LJ_sld dL_law_833 hi2 ?_
  have hc2 := ct_X9_latest F (n := 135) (by decide) P D T m1 (xs (nI j + 1).toNatClampNeg) (xs (nI j + 2).toNatClampNeg)
  rw [hz2] at hc2
  refine LJ_callV 113 9 2 [.int (xs (nI j + 1).toNatClampNeg), .int (xs (nI j + 2).toNatClampNeg)] dL_law_834 mv_X9_latest mv_X9_latestv lk_L_108 hc2 rfl rfl (by decide) rfl (by decide) ⟨by decide, by decide⟩ (Nat.le_of_ble_eq_true rfl) ⟨Nat.le_refl _, Nat.le_refl _⟩ ?_
  exact LJ_icmp_eq 1257 dL_law_837 (by decide) (fun _ => hnext m2 P D T hG2) (fun hne => absurd rfl hne)
def OP_helps (F : Nat) (G H : Mm → Nat → Nat → Option Nat → Prop) : Prop := ∀ (m : Mm) (P D : Nat) (T : Option Nat), G m P D T → ∀ (a1 : Int32), ∃ z m1 m2, f_X8_helps F m P a1 = some (z, m1) ∧ f_X9_helps F m1 a1 = some (z, m2) ∧ H m2 P D T
set_option maxHeartbeats 4000000 in
set_option maxRecDepth 100000 in
theorem lc_22 {F : Nat} {G H : Mm → Nat → Nat → Option Nat → Prop} {b L j : Nat} {xs : Nat → Int32} {m : Mm} {P D : Nat} {T : Option Nat} (hG : G m P D T) (hpl : isPl P ∧ isPl D) (hi1 : vp_in (nI j + 1) L) (hi2 : vp_in (nI j + 2) L) (hi3 : vp_in (nI j + 3) L) (hi4 : vp_in (nI j + 4) L) (hop : OP_helps F G H) (hnext : ∀ m P D T, H m P D T → LJ b L xs 1257 [(0, .float 77), (1, .ref 0), (2, .ref 113), (3, .int (nI j))] [] 135 m (RF P D T)) : LJ b L xs 842 [(0, .float 77), (1, .ref 0), (2, .ref 113), (3, .int (nI j))] [] 135 m (RF P D T) := by
  obtain ⟨z, m1, m2, hz1, hz2, hG2⟩ := hop m P D T hG (xs (nI j + 1).toNatClampNeg)
  refine LJ_aload_n 1 1 0 dL_law_842 rfl rfl ?_
  refine LJ_sload_n 0 0 77 dL_law_843 rfl rfl ?_
  refine LJ_iload_n 3 3 (nI j) dL_law_844 rfl rfl ?_
  refine LJ_iconst 1 dL_law_845 (by decide) ?_
  refine LJ_iadd dL_law_846 ?_
  refine LJ_sld dL_law_847 hi1 ?_
  have hc1 := ct_X8_helps F (n := 135) (by decide) P D T hpl.1 m (xs (nI j + 1).toNatClampNeg)
  rw [hz1] at hc1
  refine LJ_callV 0 8 1 [.int (xs (nI j + 1).toNatClampNeg)] dL_law_848 mv_X8_helps mv_X8_helpsv lk_L_109 hc1 rfl rfl (by decide) rfl (by decide) ⟨by decide, by decide⟩ (Nat.le_of_ble_eq_true rfl) ⟨Nat.le_refl _, Nat.le_refl _⟩ ?_
  refine LJ_aload_n 2 2 113 dL_law_851 rfl rfl ?_
  refine LJ_sload_n 0 0 77 dL_law_852 rfl rfl ?_
  refine LJ_iload_n 3 3 (nI j) dL_law_853 rfl rfl ?_
  refine LJ_iconst 1 dL_law_854 (by decide) ?_
  refine LJ_iadd dL_law_855 ?_
  refine LJ_sld dL_law_856 hi1 ?_
  have hc2 := ct_X9_helps F (n := 135) (by decide) P D T m1 (xs (nI j + 1).toNatClampNeg)
  rw [hz2] at hc2
  refine LJ_callV 113 9 1 [.int (xs (nI j + 1).toNatClampNeg)] dL_law_857 mv_X9_helps mv_X9_helpsv lk_L_112 hc2 rfl rfl (by decide) rfl (by decide) ⟨by decide, by decide⟩ (Nat.le_of_ble_eq_true rfl) ⟨Nat.le_refl _, Nat.le_refl _⟩ ?_
  exact LJ_icmp_eq 1257 dL_law_860 (by decide) (fun _ => hnext m2 P D T hG2) (fun hne => absurd rfl hne)
def OP_together (F : Nat) (G H : Mm → Nat → Nat → Option Nat → Prop) : Prop := ∀ (m : Mm) (P D : Nat) (T : Option Nat), G m P D T → ∀ (a1 : Int32), ∃ z m1 m2, f_X8_together F m P a1 = some (z, m1) ∧ f_X9_together F m1 a1 = some (z, m2) ∧ H m2 P D T
set_option maxHeartbeats 4000000 in
set_option maxRecDepth 100000 in
theorem lc_23 {F : Nat} {G H : Mm → Nat → Nat → Option Nat → Prop} {b L j : Nat} {xs : Nat → Int32} {m : Mm} {P D : Nat} {T : Option Nat} (hG : G m P D T) (hpl : isPl P ∧ isPl D) (hi1 : vp_in (nI j + 1) L) (hi2 : vp_in (nI j + 2) L) (hi3 : vp_in (nI j + 3) L) (hi4 : vp_in (nI j + 4) L) (hop : OP_together F G H) (hnext : ∀ m P D T, H m P D T → LJ b L xs 1257 [(0, .float 77), (1, .ref 0), (2, .ref 113), (3, .int (nI j))] [] 135 m (RF P D T)) : LJ b L xs 865 [(0, .float 77), (1, .ref 0), (2, .ref 113), (3, .int (nI j))] [] 135 m (RF P D T) := by
  obtain ⟨z, m1, m2, hz1, hz2, hG2⟩ := hop m P D T hG (xs (nI j + 1).toNatClampNeg)
  refine LJ_aload_n 1 1 0 dL_law_865 rfl rfl ?_
  refine LJ_sload_n 0 0 77 dL_law_866 rfl rfl ?_
  refine LJ_iload_n 3 3 (nI j) dL_law_867 rfl rfl ?_
  refine LJ_iconst 1 dL_law_868 (by decide) ?_
  refine LJ_iadd dL_law_869 ?_
  refine LJ_sld dL_law_870 hi1 ?_
  have hc1 := ct_X8_together F (n := 135) (by decide) P D T hpl.1 m (xs (nI j + 1).toNatClampNeg)
  rw [hz1] at hc1
  refine LJ_callV 0 8 1 [.int (xs (nI j + 1).toNatClampNeg)] dL_law_871 mv_X8_together mv_X8_togetherv lk_L_113 hc1 rfl rfl (by decide) rfl (by decide) ⟨by decide, by decide⟩ (Nat.le_of_ble_eq_true rfl) ⟨Nat.le_refl _, Nat.le_refl _⟩ ?_
  refine LJ_aload_n 2 2 113 dL_law_874 rfl rfl ?_
  refine LJ_sload_n 0 0 77 dL_law_875 rfl rfl ?_
  refine LJ_iload_n 3 3 (nI j) dL_law_876 rfl rfl ?_
  refine LJ_iconst 1 dL_law_877 (by decide) ?_
  refine LJ_iadd dL_law_878 ?_
  refine LJ_sld dL_law_879 hi1 ?_
  have hc2 := ct_X9_together F (n := 135) (by decide) P D T m1 (xs (nI j + 1).toNatClampNeg)
  rw [hz2] at hc2
  refine LJ_callV 113 9 1 [.int (xs (nI j + 1).toNatClampNeg)] dL_law_880 mv_X9_together mv_X9_togetherv lk_L_116 hc2 rfl rfl (by decide) rfl (by decide) ⟨by decide, by decide⟩ (Nat.le_of_ble_eq_true rfl) ⟨Nat.le_refl _, Nat.le_refl _⟩ ?_
  exact LJ_icmp_eq 1257 dL_law_883 (by decide) (fun _ => hnext m2 P D T hG2) (fun hne => absurd rfl hne)
def OP_beside (F : Nat) (G H : Mm → Nat → Nat → Option Nat → Prop) : Prop := ∀ (m : Mm) (P D : Nat) (T : Option Nat), G m P D T → ∀ (a1 : Int32) (a2 : Int32), ∃ z m1 m2, f_X8_beside F m P a1 a2 = some (z, m1) ∧ f_X9_beside F m1 a1 a2 = some (z, m2) ∧ H m2 P D T
set_option maxHeartbeats 4000000 in
set_option maxRecDepth 100000 in
theorem lc_24 {F : Nat} {G H : Mm → Nat → Nat → Option Nat → Prop} {b L j : Nat} {xs : Nat → Int32} {m : Mm} {P D : Nat} {T : Option Nat} (hG : G m P D T) (hpl : isPl P ∧ isPl D) (hi1 : vp_in (nI j + 1) L) (hi2 : vp_in (nI j + 2) L) (hi3 : vp_in (nI j + 3) L) (hi4 : vp_in (nI j + 4) L) (hop : OP_beside F G H) (hnext : ∀ m P D T, H m P D T → LJ b L xs 1257 [(0, .float 77), (1, .ref 0), (2, .ref 113), (3, .int (nI j))] [] 135 m (RF P D T)) : LJ b L xs 888 [(0, .float 77), (1, .ref 0), (2, .ref 113), (3, .int (nI j))] [] 135 m (RF P D T) := by
  obtain ⟨z, m1, m2, hz1, hz2, hG2⟩ := hop m P D T hG (xs (nI j + 1).toNatClampNeg) (xs (nI j + 2).toNatClampNeg)
  refine LJ_aload_n 1 1 0 dL_law_888 rfl rfl ?_
  refine LJ_sload_n 0 0 77 dL_law_889 rfl rfl ?_
  refine LJ_iload_n 3 3 (nI j) dL_law_890 rfl rfl ?_
  refine LJ_iconst 1 dL_law_891 (by decide) ?_
  refine LJ_iadd dL_law_892 ?_
  refine LJ_sld dL_law_893 hi1 ?_
  refine LJ_sload_n 0 0 77 dL_law_894 rfl rfl ?_
  refine LJ_iload_n 3 3 (nI j) dL_law_895 rfl rfl ?_
  refine LJ_iconst 2 dL_law_896 (by decide) ?_
  refine LJ_iadd dL_law_897 ?_
  refine LJ_sld dL_law_898 hi2 ?_
  have hc1 := ct_X8_beside F (n := 135) (by decide) P D T hpl.1 m (xs (nI j + 1).toNatClampNeg) (xs (nI j + 2).toNatClampNeg)
  rw [hz1] at hc1
  refine LJ_callV 0 8 2 [.int (xs (nI j + 1).toNatClampNeg), .int (xs (nI j + 2).toNatClampNeg)] dL_law_899 mv_X8_beside mv_X8_besidev lk_L_117 hc1 rfl rfl (by decide) rfl (by decide) ⟨by decide, by decide⟩ (Nat.le_of_ble_eq_true rfl) ⟨Nat.le_refl _, Nat.le_refl _⟩ ?_
  refine LJ_aload_n 2 2 113 dL_law_902 rfl rfl ?_
  refine LJ_sload_n 0 0 77 dL_law_903 rfl rfl ?_
  refine LJ_iload_n 3 3 (nI j) dL_law_904 rfl rfl ?_
  refine LJ_iconst 1 dL_law_905 (by decide) ?_
  refine LJ_iadd dL_law_906 ?_
  refine LJ_sld dL_law_907 hi1 ?_
  refine LJ_sload_n 0 0 77 dL_law_908 rfl rfl ?_
  refine LJ_iload_n 3 3 (nI j) dL_law_909 rfl rfl ?_
  refine LJ_iconst 2 dL_law_910 (by decide) ?_
  refine LJ_iadd dL_law_911 ?_
  refine LJ_sld dL_law_912 hi2 ?_
  have hc2 := ct_X9_beside F (n := 135) (by decide) P D T m1 (xs (nI j + 1).toNatClampNeg) (xs (nI j + 2).toNatClampNeg)
  rw [hz2] at hc2
  refine LJ_callV 113 9 2 [.int (xs (nI j + 1).toNatClampNeg), .int (xs (nI j + 2).toNatClampNeg)] dL_law_913 mv_X9_beside mv_X9_besidev lk_L_120 hc2 rfl rfl (by decide) rfl (by decide) ⟨by decide, by decide⟩ (Nat.le_of_ble_eq_true rfl) ⟨Nat.le_refl _, Nat.le_refl _⟩ ?_
  exact LJ_icmp_eq 1257 dL_law_916 (by decide) (fun _ => hnext m2 P D T hG2) (fun hne => absurd rfl hne)
def OP_most (F : Nat) (G H : Mm → Nat → Nat → Option Nat → Prop) : Prop := ∀ (m : Mm) (P D : Nat) (T : Option Nat), G m P D T → ∀ (a1 : Int32), ∃ z m1 m2, f_X8_most F m P a1 = some (z, m1) ∧ f_X9_most F m1 a1 = some (z, m2) ∧ H m2 P D T
set_option maxHeartbeats 4000000 in
set_option maxRecDepth 100000 in
theorem lc_25 {F : Nat} {G H : Mm → Nat → Nat → Option Nat → Prop} {b L j : Nat} {xs : Nat → Int32} {m : Mm} {P D : Nat} {T : Option Nat} (hG : G m P D T) (hpl : isPl P ∧ isPl D) (hi1 : vp_in (nI j + 1) L) (hi2 : vp_in (nI j + 2) L) (hi3 : vp_in (nI j + 3) L) (hi4 : vp_in (nI j + 4) L) (hop : OP_most F G H) (hnext : ∀ m P D T, H m P D T → LJ b L xs 1257 [(0, .float 77), (1, .ref 0), (2, .ref 113), (3, .int (nI j))] [] 135 m (RF P D T)) : LJ b L xs 921 [(0, .float 77), (1, .ref 0), (2, .ref 113), (3, .int (nI j))] [] 135 m (RF P D T) := by
  obtain ⟨z, m1, m2, hz1, hz2, hG2⟩ := hop m P D T hG (xs (nI j + 1).toNatClampNeg)
  refine LJ_aload_n 1 1 0 dL_law_921 rfl rfl ?_
  refine LJ_sload_n 0 0 77 dL_law_922 rfl rfl ?_
  refine LJ_iload_n 3 3 (nI j) dL_law_923 rfl rfl ?_
  refine LJ_iconst 1 dL_law_924 (by decide) ?_
  refine LJ_iadd dL_law_925 ?_
  refine LJ_sld dL_law_926 hi1 ?_
  have hc1 := ct_X8_most F (n := 135) (by decide) P D T hpl.1 m (xs (nI j + 1).toNatClampNeg)
  rw [hz1] at hc1
  refine LJ_callV 0 8 1 [.int (xs (nI j + 1).toNatClampNeg)] dL_law_927 mv_X8_most mv_X8_mostv lk_L_121 hc1 rfl rfl (by decide) rfl (by decide) ⟨by decide, by decide⟩ (Nat.le_of_ble_eq_true rfl) ⟨Nat.le_refl _, Nat.le_refl _⟩ ?_
  refine LJ_aload_n 2 2 113 dL_law_930 rfl rfl ?_
  refine LJ_sload_n 0 0 77 dL_law_931 rfl rfl ?_
  refine LJ_iload_n 3 3 (nI j) dL_law_932 rfl rfl ?_
  refine LJ_iconst 1 dL_law_933 (by decide) ?_
  refine LJ_iadd dL_law_934 ?_
  refine LJ_sld dL_law_935 hi1 ?_
  have hc2 := ct_X9_most F (n := 135) (by decide) P D T m1 (xs (nI j + 1).toNatClampNeg)
  rw [hz2] at hc2
  refine LJ_callV 113 9 1 [.int (xs (nI j + 1).toNatClampNeg)] dL_law_936 mv_X9_most mv_X9_mostv lk_L_124 hc2 rfl rfl (by decide) rfl (by decide) ⟨by decide, by decide⟩ (Nat.le_of_ble_eq_true rfl) ⟨Nat.le_refl _, Nat.le_refl _⟩ ?_
  exact LJ_icmp_eq 1257 dL_law_939 (by decide) (fun _ => hnext m2 P D T hG2) (fun hne => absurd rfl hne)
def OP_upright (F : Nat) (G H : Mm → Nat → Nat → Option Nat → Prop) : Prop := ∀ (m : Mm) (P D : Nat) (T : Option Nat), G m P D T → ∀ (a1 : Int32), ∃ z m1 m2, f_X8_upright F m P a1 = some (z, m1) ∧ f_X9_upright F m1 a1 = some (z, m2) ∧ H m2 P D T
set_option maxHeartbeats 4000000 in
set_option maxRecDepth 100000 in
theorem lc_26 {F : Nat} {G H : Mm → Nat → Nat → Option Nat → Prop} {b L j : Nat} {xs : Nat → Int32} {m : Mm} {P D : Nat} {T : Option Nat} (hG : G m P D T) (hpl : isPl P ∧ isPl D) (hi1 : vp_in (nI j + 1) L) (hi2 : vp_in (nI j + 2) L) (hi3 : vp_in (nI j + 3) L) (hi4 : vp_in (nI j + 4) L) (hop : OP_upright F G H) (hnext : ∀ m P D T, H m P D T → LJ b L xs 1257 [(0, .float 77), (1, .ref 0), (2, .ref 113), (3, .int (nI j))] [] 135 m (RF P D T)) : LJ b L xs 944 [(0, .float 77), (1, .ref 0), (2, .ref 113), (3, .int (nI j))] [] 135 m (RF P D T) := by
  obtain ⟨z, m1, m2, hz1, hz2, hG2⟩ := hop m P D T hG (xs (nI j + 1).toNatClampNeg)
  refine LJ_aload_n 1 1 0 dL_law_944 rfl rfl ?_
  refine LJ_sload_n 0 0 77 dL_law_945 rfl rfl ?_
  refine LJ_iload_n 3 3 (nI j) dL_law_946 rfl rfl ?_
  refine LJ_iconst 1 dL_law_947 (by decide) ?_
  refine LJ_iadd dL_law_948 ?_
  refine LJ_sld dL_law_949 hi1 ?_
  have hc1 := ct_X8_upright F (n := 135) (by decide) P D T hpl.1 m (xs (nI j + 1).toNatClampNeg)
  rw [hz1] at hc1
  refine LJ_callV 0 8 1 [.int (xs (nI j + 1).toNatClampNeg)] dL_law_950 mv_X8_upright mv_X8_uprightv lk_L_125 hc1 rfl rfl (by decide) rfl (by decide) ⟨by decide, by decide⟩ (Nat.le_of_ble_eq_true rfl) ⟨Nat.le_refl _, Nat.le_refl _⟩ ?_
  refine LJ_aload_n 2 2 113 dL_law_953 rfl rfl ?_
  refine LJ_sload_n 0 0 77 dL_law_954 rfl rfl ?_
  refine LJ_iload_n 3 3 (nI j) dL_law_955 rfl rfl ?_
  refine LJ_iconst 1 dL_law_956 (by decide) ?_
  refine LJ_iadd dL_law_957 ?_
  refine LJ_sld dL_law_958 hi1 ?_
  have hc2 := ct_X9_upright F (n := 135) (by decide) P D T m1 (xs (nI j + 1).toNatClampNeg)
  rw [hz2] at hc2
  refine LJ_callV 113 9 1 [.int (xs (nI j + 1).toNatClampNeg)] dL_law_959 mv_X9_upright mv_X9_uprightv lk_L_128 hc2 rfl rfl (by decide) rfl (by decide) ⟨by decide, by decide⟩ (Nat.le_of_ble_eq_true rfl) ⟨Nat.le_refl _, Nat.le_refl _⟩ ?_
  exact LJ_icmp_eq 1257 dL_law_962 (by decide) (fun _ => hnext m2 P D T hG2) (fun hne => absurd rfl hne)
def OP_men (F : Nat) (G H : Mm → Nat → Nat → Option Nat → Prop) : Prop := ∀ (m : Mm) (P D : Nat) (T : Option Nat), G m P D T → ∀ (a1 : Int32), ∃ z, f_X8_men F m P a1 = some z ∧ f_X9_men F m a1 = some z ∧ H m P D T
set_option maxHeartbeats 4000000 in
set_option maxRecDepth 100000 in
theorem lc_27 {F : Nat} {G H : Mm → Nat → Nat → Option Nat → Prop} {b L j : Nat} {xs : Nat → Int32} {m : Mm} {P D : Nat} {T : Option Nat} (hG : G m P D T) (hpl : isPl P ∧ isPl D) (hi1 : vp_in (nI j + 1) L) (hi2 : vp_in (nI j + 2) L) (hi3 : vp_in (nI j + 3) L) (hi4 : vp_in (nI j + 4) L) (hop : OP_men F G H) (hnext : ∀ m P D T, H m P D T → LJ b L xs 1257 [(0, .float 77), (1, .ref 0), (2, .ref 113), (3, .int (nI j))] [] 135 m (RF P D T)) : LJ b L xs 967 [(0, .float 77), (1, .ref 0), (2, .ref 113), (3, .int (nI j))] [] 135 m (RF P D T) := by
  obtain ⟨z, hz1, hz2, hG2⟩ := hop m P D T hG (xs (nI j + 1).toNatClampNeg)
  refine LJ_aload_n 1 1 0 dL_law_967 rfl rfl ?_
  refine LJ_sload_n 0 0 77 dL_law_968 rfl rfl ?_
  refine LJ_iload_n 3 3 (nI j) dL_law_969 rfl rfl ?_
  refine LJ_iconst 1 dL_law_970 (by decide) ?_
  refine LJ_iadd dL_law_971 ?_
  refine LJ_sld dL_law_972 hi1 ?_
  have hc1 := ct_X8_men F (n := 135) (by decide) P D T hpl.1 m (xs (nI j + 1).toNatClampNeg)
  rw [hz1] at hc1
  refine LJ_callV 0 8 1 [.int (xs (nI j + 1).toNatClampNeg)] dL_law_973 mv_X8_men mv_X8_menv lk_L_129 hc1 rfl rfl (by decide) rfl (by decide) ⟨by decide, by decide⟩ (Nat.le_of_ble_eq_true rfl) ⟨Nat.le_refl _, Nat.le_refl _⟩ ?_
  refine LJ_aload_n 2 2 113 dL_law_976 rfl rfl ?_
  refine LJ_sload_n 0 0 77 dL_law_977 rfl rfl ?_
  refine LJ_iload_n 3 3 (nI j) dL_law_978 rfl rfl ?_
  refine LJ_iconst 1 dL_law_979 (by decide) ?_
  refine LJ_iadd dL_law_980 ?_
  refine LJ_sld dL_law_981 hi1 ?_
  have hc2 := ct_X9_men F (n := 135) (by decide) P D T m (xs (nI j + 1).toNatClampNeg)
  rw [hz2] at hc2
  refine LJ_callV 113 9 1 [.int (xs (nI j + 1).toNatClampNeg)] dL_law_982 mv_X9_men mv_X9_menv lk_L_132 hc2 rfl rfl (by decide) rfl (by decide) ⟨by decide, by decide⟩ (Nat.le_of_ble_eq_true rfl) ⟨Nat.le_refl _, Nat.le_refl _⟩ ?_
  exact LJ_icmp_eq 1257 dL_law_985 (by decide) (fun _ => hnext m P D T hG2) (fun hne => absurd rfl hne)
def OP_dry (F : Nat) (G H : Mm → Nat → Nat → Option Nat → Prop) : Prop := ∀ (m : Mm) (P D : Nat) (T : Option Nat), G m P D T → ∀ (a1 : Int32) (a2 : Int32), ∃ z, f_X8_dry F m P a1 a2 = some z ∧ f_X9_dry F m a1 a2 = some z ∧ H m P D T
set_option maxHeartbeats 4000000 in
set_option maxRecDepth 100000 in
theorem lc_28 {F : Nat} {G H : Mm → Nat → Nat → Option Nat → Prop} {b L j : Nat} {xs : Nat → Int32} {m : Mm} {P D : Nat} {T : Option Nat} (hG : G m P D T) (hpl : isPl P ∧ isPl D) (hi1 : vp_in (nI j + 1) L) (hi2 : vp_in (nI j + 2) L) (hi3 : vp_in (nI j + 3) L) (hi4 : vp_in (nI j + 4) L) (hop : OP_dry F G H) (hnext : ∀ m P D T, H m P D T → LJ b L xs 1257 [(0, .float 77), (1, .ref 0), (2, .ref 113), (3, .int (nI j))] [] 135 m (RF P D T)) : LJ b L xs 990 [(0, .float 77), (1, .ref 0), (2, .ref 113), (3, .int (nI j))] [] 135 m (RF P D T) := by
  obtain ⟨z, hz1, hz2, hG2⟩ := hop m P D T hG (xs (nI j + 1).toNatClampNeg) (xs (nI j + 2).toNatClampNeg)
  refine LJ_aload_n 1 1 0 dL_law_990 rfl rfl ?_
  refine LJ_sload_n 0 0 77 dL_law_991 rfl rfl ?_
  refine LJ_iload_n 3 3 (nI j) dL_law_992 rfl rfl ?_
  refine LJ_iconst 1 dL_law_993 (by decide) ?_
  refine LJ_iadd dL_law_994 ?_
  refine LJ_sld dL_law_995 hi1 ?_
  refine LJ_sload_n 0 0 77 dL_law_996 rfl rfl ?_
  refine LJ_iload_n 3 3 (nI j) dL_law_997 rfl rfl ?_
  refine LJ_iconst 2 dL_law_998 (by decide) ?_
  refine LJ_iadd dL_law_999 ?_
  refine LJ_sld dL_law_1000 hi2 ?_
  have hc1 := ct_X8_dry F (n := 135) (by decide) P D T hpl.1 m (xs (nI j + 1).toNatClampNeg) (xs (nI j + 2).toNatClampNeg)
  rw [hz1] at hc1
  refine LJ_callV 0 8 2 [.int (xs (nI j + 1).toNatClampNeg), .int (xs (nI j + 2).toNatClampNeg)] dL_law_1001 mv_X8_dry mv_X8_dryv lk_L_133 hc1 rfl rfl (by decide) rfl (by decide) ⟨by decide, by decide⟩ (Nat.le_of_ble_eq_true rfl) ⟨Nat.le_refl _, Nat.le_refl _⟩ ?_
  refine LJ_aload_n 2 2 113 dL_law_1004 rfl rfl ?_
  refine LJ_sload_n 0 0 77 dL_law_1005 rfl rfl ?_
  refine LJ_iload_n 3 3 (nI j) dL_law_1006 rfl rfl ?_
  refine LJ_iconst 1 dL_law_1007 (by decide) ?_
  refine LJ_iadd dL_law_1008 ?_
  refine LJ_sld dL_law_1009 hi1 ?_
  refine LJ_sload_n 0 0 77 dL_law_1010 rfl rfl ?_
  refine LJ_iload_n 3 3 (nI j) dL_law_1011 rfl rfl ?_
  refine LJ_iconst 2 dL_law_1012 (by decide) ?_
  refine LJ_iadd dL_law_1013 ?_
  refine LJ_sld dL_law_1014 hi2 ?_
  have hc2 := ct_X9_dry F (n := 135) (by decide) P D T m (xs (nI j + 1).toNatClampNeg) (xs (nI j + 2).toNatClampNeg)
  rw [hz2] at hc2
  refine LJ_callV 113 9 2 [.int (xs (nI j + 1).toNatClampNeg), .int (xs (nI j + 2).toNatClampNeg)] dL_law_1015 mv_X9_dry mv_X9_dryv lk_L_136 hc2 rfl rfl (by decide) rfl (by decide) ⟨by decide, by decide⟩ (Nat.le_of_ble_eq_true rfl) ⟨Nat.le_refl _, Nat.le_refl _⟩ ?_
  exact LJ_icmp_eq 1257 dL_law_1018 (by decide) (fun _ => hnext m P D T hG2) (fun hne => absurd rfl hne)
def OP_sound (F : Nat) (G H : Mm → Nat → Nat → Option Nat → Prop) : Prop := ∀ (m : Mm) (P D : Nat) (T : Option Nat), G m P D T → ∀ (a1 : Int32), ∃ z m1 m2, f_X8_sound m a1 = some (z, m1) ∧ f_X9_sound m1 a1 = some (z, m2) ∧ H m2 P D T
set_option maxHeartbeats 4000000 in
set_option maxRecDepth 100000 in
theorem lc_29 {F : Nat} {G H : Mm → Nat → Nat → Option Nat → Prop} {b L j : Nat} {xs : Nat → Int32} {m : Mm} {P D : Nat} {T : Option Nat} (hG : G m P D T) (hpl : isPl P ∧ isPl D) (hi1 : vp_in (nI j + 1) L) (hi2 : vp_in (nI j + 2) L) (hi3 : vp_in (nI j + 3) L) (hi4 : vp_in (nI j + 4) L) (hop : OP_sound F G H) (hnext : ∀ m P D T, H m P D T → LJ b L xs 1257 [(0, .float 77), (1, .ref 0), (2, .ref 113), (3, .int (nI j))] [] 135 m (RF P D T)) : LJ b L xs 1023 [(0, .float 77), (1, .ref 0), (2, .ref 113), (3, .int (nI j))] [] 135 m (RF P D T) := by
  obtain ⟨z, m1, m2, hz1, hz2, hG2⟩ := hop m P D T hG (xs (nI j + 1).toNatClampNeg)
  refine LJ_aload_n 1 1 0 dL_law_1023 rfl rfl ?_
  refine LJ_sload_n 0 0 77 dL_law_1024 rfl rfl ?_
  refine LJ_iload_n 3 3 (nI j) dL_law_1025 rfl rfl ?_
  refine LJ_iconst 1 dL_law_1026 (by decide) ?_
  refine LJ_iadd dL_law_1027 ?_
  refine LJ_sld dL_law_1028 hi1 ?_
  have hc1 := ct_X8_sound F (n := 135) (by decide) P D T m (xs (nI j + 1).toNatClampNeg)
  rw [hz1] at hc1
  refine LJ_callV 0 8 1 [.int (xs (nI j + 1).toNatClampNeg)] dL_law_1029 mv_X8_sound mv_X8_soundv lk_L_137 hc1 rfl rfl (by decide) rfl (by decide) ⟨by decide, by decide⟩ (Nat.le_of_ble_eq_true rfl) ⟨Nat.le_refl _, Nat.le_refl _⟩ ?_
  refine LJ_aload_n 2 2 113 dL_law_1032 rfl rfl ?_
  refine LJ_sload_n 0 0 77 dL_law_1033 rfl rfl ?_
  refine LJ_iload_n 3 3 (nI j) dL_law_1034 rfl rfl ?_
  refine LJ_iconst 1 dL_law_1035 (by decide) ?_
  refine LJ_iadd dL_law_1036 ?_
  refine LJ_sld dL_law_1037 hi1 ?_
  have hc2 := ct_X9_sound F (n := 135) (by decide) P D T m1 (xs (nI j + 1).toNatClampNeg)
  rw [hz2] at hc2
  refine LJ_callV 113 9 1 [.int (xs (nI j + 1).toNatClampNeg)] dL_law_1038 mv_X9_sound mv_X9_soundv lk_L_140 hc2 rfl rfl (by decide) rfl (by decide) ⟨by decide, by decide⟩ (Nat.le_of_ble_eq_true rfl) ⟨Nat.le_refl _, Nat.le_refl _⟩ ?_
  exact LJ_icmp_eq 1257 dL_law_1041 (by decide) (fun _ => hnext m2 P D T hG2) (fun hne => absurd rfl hne)
def OP_wipe (F : Nat) (G H : Mm → Nat → Nat → Option Nat → Prop) : Prop := ∀ (m : Mm) (P D : Nat) (T : Option Nat), G m P D T → ∃ z m1 m2, f_X8_wipe m = some (z, m1) ∧ f_X9_wipe m1 = some (z, m2) ∧ H m2 P D T
set_option maxHeartbeats 4000000 in
set_option maxRecDepth 100000 in
theorem lc_30 {F : Nat} {G H : Mm → Nat → Nat → Option Nat → Prop} {b L j : Nat} {xs : Nat → Int32} {m : Mm} {P D : Nat} {T : Option Nat} (hG : G m P D T) (hpl : isPl P ∧ isPl D) (hi1 : vp_in (nI j + 1) L) (hi2 : vp_in (nI j + 2) L) (hi3 : vp_in (nI j + 3) L) (hi4 : vp_in (nI j + 4) L) (hop : OP_wipe F G H) (hnext : ∀ m P D T, H m P D T → LJ b L xs 1257 [(0, .float 77), (1, .ref 0), (2, .ref 113), (3, .int (nI j))] [] 135 m (RF P D T)) : LJ b L xs 1046 [(0, .float 77), (1, .ref 0), (2, .ref 113), (3, .int (nI j))] [] 135 m (RF P D T) := by
  obtain ⟨z, m1, m2, hz1, hz2, hG2⟩ := hop m P D T hG 
  refine LJ_aload_n 1 1 0 dL_law_1046 rfl rfl ?_
  have hc1 := ct_X8_wipe F (n := 135) (by decide) P D T m 
  rw [hz1] at hc1
  refine LJ_callV 0 8 0 [] dL_law_1047 mv_X8_wipe mv_X8_wipev lk_L_141 hc1 rfl rfl (by decide) rfl (by decide) ⟨by decide, by decide⟩ (Nat.le_of_ble_eq_true rfl) ⟨Nat.le_refl _, Nat.le_refl _⟩ ?_
  refine LJ_aload_n 2 2 113 dL_law_1050 rfl rfl ?_
  have hc2 := ct_X9_wipe F (n := 135) (by decide) P D T m1 
  rw [hz2] at hc2
  refine LJ_callV 113 9 0 [] dL_law_1051 mv_X9_wipe mv_X9_wipev lk_L_144 hc2 rfl rfl (by decide) rfl (by decide) ⟨by decide, by decide⟩ (Nat.le_of_ble_eq_true rfl) ⟨Nat.le_refl _, Nat.le_refl _⟩ ?_
  exact LJ_icmp_eq 1257 dL_law_1054 (by decide) (fun _ => hnext m2 P D T hG2) (fun hne => absurd rfl hne)
def OP_rates (F : Nat) (G H : Mm → Nat → Nat → Option Nat → Prop) : Prop := ∀ (m : Mm) (P D : Nat) (T : Option Nat), G m P D T → ∀ (a1 : Int32), ∃ z, f_X8_rates F m P a1 = some z ∧ f_X9_rates F m a1 = some z ∧ H m P D T
set_option maxHeartbeats 4000000 in
set_option maxRecDepth 100000 in
theorem lc_31 {F : Nat} {G H : Mm → Nat → Nat → Option Nat → Prop} {b L j : Nat} {xs : Nat → Int32} {m : Mm} {P D : Nat} {T : Option Nat} (hG : G m P D T) (hpl : isPl P ∧ isPl D) (hi1 : vp_in (nI j + 1) L) (hi2 : vp_in (nI j + 2) L) (hi3 : vp_in (nI j + 3) L) (hi4 : vp_in (nI j + 4) L) (hop : OP_rates F G H) (hnext : ∀ m P D T, H m P D T → LJ b L xs 1257 [(0, .float 77), (1, .ref 0), (2, .ref 113), (3, .int (nI j))] [] 135 m (RF P D T)) : LJ b L xs 1059 [(0, .float 77), (1, .ref 0), (2, .ref 113), (3, .int (nI j))] [] 135 m (RF P D T) := by
  obtain ⟨z, hz1, hz2, hG2⟩ := hop m P D T hG (xs (nI j + 1).toNatClampNeg)
  refine LJ_aload_n 1 1 0 dL_law_1059 rfl rfl ?_
  refine LJ_sload_n 0 0 77 dL_law_1060 rfl rfl ?_
  refine LJ_iload_n 3 3 (nI j) dL_law_1061 rfl rfl ?_
  refine LJ_iconst 1 dL_law_1062 (by decide) ?_
  refine LJ_iadd dL_law_1063 ?_
  refine LJ_sld dL_law_1064 hi1 ?_
  have hc1 := ct_X8_rates F (n := 135) (by decide) P D T hpl.1 m (xs (nI j + 1).toNatClampNeg)
  rw [hz1] at hc1
  refine LJ_callV 0 8 1 [.int (xs (nI j + 1).toNatClampNeg)] dL_law_1065 mv_X8_rates mv_X8_ratesv lk_L_145 hc1 rfl rfl (by decide) rfl (by decide) ⟨by decide, by decide⟩ (Nat.le_of_ble_eq_true rfl) ⟨Nat.le_refl _, Nat.le_refl _⟩ ?_
  refine LJ_aload_n 2 2 113 dL_law_1068 rfl rfl ?_
  refine LJ_sload_n 0 0 77 dL_law_1069 rfl rfl ?_
  refine LJ_iload_n 3 3 (nI j) dL_law_1070 rfl rfl ?_
  refine LJ_iconst 1 dL_law_1071 (by decide) ?_
  refine LJ_iadd dL_law_1072 ?_
  refine LJ_sld dL_law_1073 hi1 ?_
  have hc2 := ct_X9_rates F (n := 135) (by decide) P D T m (xs (nI j + 1).toNatClampNeg)
  rw [hz2] at hc2
  refine LJ_callV 113 9 1 [.int (xs (nI j + 1).toNatClampNeg)] dL_law_1074 mv_X9_rates mv_X9_ratesv lk_L_148 hc2 rfl rfl (by decide) rfl (by decide) ⟨by decide, by decide⟩ (Nat.le_of_ble_eq_true rfl) ⟨Nat.le_refl _, Nat.le_refl _⟩ ?_
  exact LJ_icmp_eq 1257 dL_law_1077 (by decide) (fun _ => hnext m P D T hG2) (fun hne => absurd rfl hne)
def OP_sheet (F : Nat) (G H : Mm → Nat → Nat → Option Nat → Prop) : Prop := ∀ (m : Mm) (P D : Nat) (T : Option Nat), G m P D T → ∀ (a1 : Int32) (a2 : Int32) (a3 : Int32), ∃ z m1 m2, f_X8_sheet m a1 a2 a3 = some (z, m1) ∧ f_X9_sheet F m1 a1 a2 a3 = some (z, m2) ∧ H m2 P D T
set_option maxHeartbeats 4000000 in
set_option maxRecDepth 100000 in
theorem lc_32 {F : Nat} {G H : Mm → Nat → Nat → Option Nat → Prop} {b L j : Nat} {xs : Nat → Int32} {m : Mm} {P D : Nat} {T : Option Nat} (hG : G m P D T) (hpl : isPl P ∧ isPl D) (hi1 : vp_in (nI j + 1) L) (hi2 : vp_in (nI j + 2) L) (hi3 : vp_in (nI j + 3) L) (hi4 : vp_in (nI j + 4) L) (hop : OP_sheet F G H) (hnext : ∀ m P D T, H m P D T → LJ b L xs 1257 [(0, .float 77), (1, .ref 0), (2, .ref 113), (3, .int (nI j))] [] 135 m (RF P D T)) : LJ b L xs 1082 [(0, .float 77), (1, .ref 0), (2, .ref 113), (3, .int (nI j))] [] 135 m (RF P D T) := by
  obtain ⟨z, m1, m2, hz1, hz2, hG2⟩ := hop m P D T hG (xs (nI j + 1).toNatClampNeg) (xs (nI j + 2).toNatClampNeg) (xs (nI j + 3).toNatClampNeg)
  refine LJ_aload_n 1 1 0 dL_law_1082 rfl rfl ?_
  refine LJ_sload_n 0 0 77 dL_law_1083 rfl rfl ?_
  refine LJ_iload_n 3 3 (nI j) dL_law_1084 rfl rfl ?_
  refine LJ_iconst 1 dL_law_1085 (by decide) ?_
  refine LJ_iadd dL_law_1086 ?_
  refine LJ_sld dL_law_1087 hi1 ?_
  refine LJ_sload_n 0 0 77 dL_law_1088 rfl rfl ?_
  refine LJ_iload_n 3 3 (nI j) dL_law_1089 rfl rfl ?_
  refine LJ_iconst 2 dL_law_1090 (by decide) ?_
  refine LJ_iadd dL_law_1091 ?_
  refine LJ_sld dL_law_1092 hi2 ?_
  refine LJ_sload_n 0 0 77 dL_law_1093 rfl rfl ?_
  refine LJ_iload_n 3 3 (nI j) dL_law_1094 rfl rfl ?_
  refine LJ_iconst 3 dL_law_1095 (by decide) ?_
  refine LJ_iadd dL_law_1096 ?_
  refine LJ_sld dL_law_1097 hi3 ?_
  have hc1 := ct_X8_sheet F (n := 135) (by decide) P D T m (xs (nI j + 1).toNatClampNeg) (xs (nI j + 2).toNatClampNeg) (xs (nI j + 3).toNatClampNeg)
  rw [hz1] at hc1
  refine LJ_callV 0 8 3 [.int (xs (nI j + 1).toNatClampNeg), .int (xs (nI j + 2).toNatClampNeg), .int (xs (nI j + 3).toNatClampNeg)] dL_law_1098 mv_X8_sheet mv_X8_sheetv lk_L_149 hc1 rfl rfl (by decide) rfl (by decide) ⟨by decide, by decide⟩ (Nat.le_of_ble_eq_true rfl) ⟨Nat.le_refl _, Nat.le_refl _⟩ ?_
  refine LJ_aload_n 2 2 113 dL_law_1101 rfl rfl ?_
  refine LJ_sload_n 0 0 77 dL_law_1102 rfl rfl ?_
  refine LJ_iload_n 3 3 (nI j) dL_law_1103 rfl rfl ?_
  refine LJ_iconst 1 dL_law_1104 (by decide) ?_
  refine LJ_iadd dL_law_1105 ?_
  refine LJ_sld dL_law_1106 hi1 ?_
  refine LJ_sload_n 0 0 77 dL_law_1107 rfl rfl ?_
  refine LJ_iload_n 3 3 (nI j) dL_law_1108 rfl rfl ?_
  refine LJ_iconst 2 dL_law_1109 (by decide) ?_
  refine LJ_iadd dL_law_1110 ?_
  refine LJ_sld dL_law_1111 hi2 ?_
  refine LJ_sload_n 0 0 77 dL_law_1112 rfl rfl ?_
  refine LJ_iload_n 3 3 (nI j) dL_law_1113 rfl rfl ?_
  refine LJ_iconst 3 dL_law_1114 (by decide) ?_
  refine LJ_iadd dL_law_1115 ?_
  refine LJ_sld dL_law_1116 hi3 ?_
  have hc2 := ct_X9_sheet F (n := 135) (by decide) P D T m1 (xs (nI j + 1).toNatClampNeg) (xs (nI j + 2).toNatClampNeg) (xs (nI j + 3).toNatClampNeg)
  rw [hz2] at hc2
  refine LJ_callV 113 9 3 [.int (xs (nI j + 1).toNatClampNeg), .int (xs (nI j + 2).toNatClampNeg), .int (xs (nI j + 3).toNatClampNeg)] dL_law_1117 mv_X9_sheet mv_X9_sheetv lk_L_152 hc2 rfl rfl (by decide) rfl (by decide) ⟨by decide, by decide⟩ (Nat.le_of_ble_eq_true rfl) ⟨Nat.le_refl _, Nat.le_refl _⟩ ?_
  exact LJ_icmp_eq 1257 dL_law_1120 (by decide) (fun _ => hnext m2 P D T hG2) (fun hne => absurd rfl hne)
def OP_lay (F : Nat) (G H : Mm → Nat → Nat → Option Nat → Prop) : Prop := ∀ (m : Mm) (P D : Nat) (T : Option Nat), G m P D T → ∀ (a1 : Int32) (a2 : Int32) (a3 : Int32), ∃ z m1 m2, f_X8_lay m a1 a2 a3 = some (z, m1) ∧ f_X9_lay m1 a1 a2 a3 = some (z, m2) ∧ H m2 P D T
set_option maxHeartbeats 4000000 in
set_option maxRecDepth 100000 in
theorem lc_33 {F : Nat} {G H : Mm → Nat → Nat → Option Nat → Prop} {b L j : Nat} {xs : Nat → Int32} {m : Mm} {P D : Nat} {T : Option Nat} (hG : G m P D T) (hpl : isPl P ∧ isPl D) (hi1 : vp_in (nI j + 1) L) (hi2 : vp_in (nI j + 2) L) (hi3 : vp_in (nI j + 3) L) (hi4 : vp_in (nI j + 4) L) (hop : OP_lay F G H) (hnext : ∀ m P D T, H m P D T → LJ b L xs 1257 [(0, .float 77), (1, .ref 0), (2, .ref 113), (3, .int (nI j))] [] 135 m (RF P D T)) : LJ b L xs 1125 [(0, .float 77), (1, .ref 0), (2, .ref 113), (3, .int (nI j))] [] 135 m (RF P D T) := by
  obtain ⟨z, m1, m2, hz1, hz2, hG2⟩ := hop m P D T hG (xs (nI j + 1).toNatClampNeg) (xs (nI j + 2).toNatClampNeg) (xs (nI j + 3).toNatClampNeg)
  refine LJ_aload_n 1 1 0 dL_law_1125 rfl rfl ?_
  refine LJ_sload_n 0 0 77 dL_law_1126 rfl rfl ?_
  refine LJ_iload_n 3 3 (nI j) dL_law_1127 rfl rfl ?_
  refine LJ_iconst 1 dL_law_1128 (by decide) ?_
  refine LJ_iadd dL_law_1129 ?_
  refine LJ_sld dL_law_1130 hi1 ?_
  refine LJ_sload_n 0 0 77 dL_law_1131 rfl rfl ?_
  refine LJ_iload_n 3 3 (nI j) dL_law_1132 rfl rfl ?_
  refine LJ_iconst 2 dL_law_1133 (by decide) ?_
  refine LJ_iadd dL_law_1134 ?_
  refine LJ_sld dL_law_1135 hi2 ?_
  refine LJ_sload_n 0 0 77 dL_law_1136 rfl rfl ?_
  refine LJ_iload_n 3 3 (nI j) dL_law_1137 rfl rfl ?_
  refine LJ_iconst 3 dL_law_1138 (by decide) ?_
  refine LJ_iadd dL_law_1139 ?_
  refine LJ_sld dL_law_1140 hi3 ?_
  have hc1 := ct_X8_lay F (n := 135) (by decide) P D T m (xs (nI j + 1).toNatClampNeg) (xs (nI j + 2).toNatClampNeg) (xs (nI j + 3).toNatClampNeg)
  rw [hz1] at hc1
  refine LJ_callV 0 8 3 [.int (xs (nI j + 1).toNatClampNeg), .int (xs (nI j + 2).toNatClampNeg), .int (xs (nI j + 3).toNatClampNeg)] dL_law_1141 mv_X8_lay mv_X8_layv lk_L_153 hc1 rfl rfl (by decide) rfl (by decide) ⟨by decide, by decide⟩ (Nat.le_of_ble_eq_true rfl) ⟨Nat.le_refl _, Nat.le_refl _⟩ ?_
  refine LJ_aload_n 2 2 113 dL_law_1144 rfl rfl ?_
  refine LJ_sload_n 0 0 77 dL_law_1145 rfl rfl ?_
  refine LJ_iload_n 3 3 (nI j) dL_law_1146 rfl rfl ?_
  refine LJ_iconst 1 dL_law_1147 (by decide) ?_
  refine LJ_iadd dL_law_1148 ?_
  refine LJ_sld dL_law_1149 hi1 ?_
  refine LJ_sload_n 0 0 77 dL_law_1150 rfl rfl ?_
  refine LJ_iload_n 3 3 (nI j) dL_law_1151 rfl rfl ?_
  refine LJ_iconst 2 dL_law_1152 (by decide) ?_
  refine LJ_iadd dL_law_1153 ?_
  refine LJ_sld dL_law_1154 hi2 ?_
  refine LJ_sload_n 0 0 77 dL_law_1155 rfl rfl ?_
  refine LJ_iload_n 3 3 (nI j) dL_law_1156 rfl rfl ?_
  refine LJ_iconst 3 dL_law_1157 (by decide) ?_
  refine LJ_iadd dL_law_1158 ?_
  refine LJ_sld dL_law_1159 hi3 ?_
  have hc2 := ct_X9_lay F (n := 135) (by decide) P D T m1 (xs (nI j + 1).toNatClampNeg) (xs (nI j + 2).toNatClampNeg) (xs (nI j + 3).toNatClampNeg)
  rw [hz2] at hc2
  refine LJ_callV 113 9 3 [.int (xs (nI j + 1).toNatClampNeg), .int (xs (nI j + 2).toNatClampNeg), .int (xs (nI j + 3).toNatClampNeg)] dL_law_1160 mv_X9_lay mv_X9_layv lk_L_156 hc2 rfl rfl (by decide) rfl (by decide) ⟨by decide, by decide⟩ (Nat.le_of_ble_eq_true rfl) ⟨Nat.le_refl _, Nat.le_refl _⟩ ?_
  exact LJ_icmp_eq 1257 dL_law_1163 (by decide) (fun _ => hnext m2 P D T hG2) (fun hne => absurd rfl hne)
def OP_read (F : Nat) (G H : Mm → Nat → Nat → Option Nat → Prop) : Prop := ∀ (m : Mm) (P D : Nat) (T : Option Nat), G m P D T → ∀ (a1 : Int32) (a2 : Int32) (a3 : Int32) (a4 : Int32), ∃ z m1 m2, f_X8_read F m P a1 a2 a3 a4 = some (z, m1) ∧ f_X9_read F m1 a1 a2 a3 a4 = some (z, m2) ∧ H m2 P D T
set_option maxHeartbeats 4000000 in
set_option maxRecDepth 100000 in
theorem lc_34 {F : Nat} {G H : Mm → Nat → Nat → Option Nat → Prop} {b L j : Nat} {xs : Nat → Int32} {m : Mm} {P D : Nat} {T : Option Nat} (hG : G m P D T) (hpl : isPl P ∧ isPl D) (hi1 : vp_in (nI j + 1) L) (hi2 : vp_in (nI j + 2) L) (hi3 : vp_in (nI j + 3) L) (hi4 : vp_in (nI j + 4) L) (hop : OP_read F G H) (hnext : ∀ m P D T, H m P D T → LJ b L xs 1257 [(0, .float 77), (1, .ref 0), (2, .ref 113), (3, .int (nI j))] [] 135 m (RF P D T)) : LJ b L xs 1168 [(0, .float 77), (1, .ref 0), (2, .ref 113), (3, .int (nI j))] [] 135 m (RF P D T) := by
  obtain ⟨z, m1, m2, hz1, hz2, hG2⟩ := hop m P D T hG (xs (nI j + 1).toNatClampNeg) (xs (nI j + 2).toNatClampNeg) (xs (nI j + 3).toNatClampNeg) (xs (nI j + 4).toNatClampNeg)
  refine LJ_aload_n 1 1 0 dL_law_1168 rfl rfl ?_
  refine LJ_sload_n 0 0 77 dL_law_1169 rfl rfl ?_
  refine LJ_iload_n 3 3 (nI j) dL_law_1170 rfl rfl ?_
  refine LJ_iconst 1 dL_law_1171 (by decide) ?_
  refine LJ_iadd dL_law_1172 ?_
  refine LJ_sld dL_law_1173 hi1 ?_
  refine LJ_sload_n 0 0 77 dL_law_1174 rfl rfl ?_
  refine LJ_iload_n 3 3 (nI j) dL_law_1175 rfl rfl ?_
  refine LJ_iconst 2 dL_law_1176 (by decide) ?_
  refine LJ_iadd dL_law_1177 ?_
  refine LJ_sld dL_law_1178 hi2 ?_
  refine LJ_sload_n 0 0 77 dL_law_1179 rfl rfl ?_
  refine LJ_iload_n 3 3 (nI j) dL_law_1180 rfl rfl ?_
  refine LJ_iconst 3 dL_law_1181 (by decide) ?_
  refine LJ_iadd dL_law_1182 ?_
  refine LJ_sld dL_law_1183 hi3 ?_
  refine LJ_sload_n 0 0 77 dL_law_1184 rfl rfl ?_
  refine LJ_iload_n 3 3 (nI j) dL_law_1185 rfl rfl ?_
  refine LJ_iconst 4 dL_law_1186 (by decide) ?_
  refine LJ_iadd dL_law_1187 ?_
  refine LJ_sld dL_law_1188 hi4 ?_
  have hc1 := ct_X8_read F (n := 135) (by decide) P D T hpl.1 m (xs (nI j + 1).toNatClampNeg) (xs (nI j + 2).toNatClampNeg) (xs (nI j + 3).toNatClampNeg) (xs (nI j + 4).toNatClampNeg)
  rw [hz1] at hc1
  refine LJ_callV 0 8 4 [.int (xs (nI j + 1).toNatClampNeg), .int (xs (nI j + 2).toNatClampNeg), .int (xs (nI j + 3).toNatClampNeg), .int (xs (nI j + 4).toNatClampNeg)] dL_law_1189 mv_X8_read mv_X8_readv lk_L_157 hc1 rfl rfl (by decide) rfl (by decide) ⟨by decide, by decide⟩ (Nat.le_of_ble_eq_true rfl) ⟨Nat.le_refl _, Nat.le_refl _⟩ ?_
  refine LJ_aload_n 2 2 113 dL_law_1192 rfl rfl ?_
  refine LJ_sload_n 0 0 77 dL_law_1193 rfl rfl ?_
  refine LJ_iload_n 3 3 (nI j) dL_law_1194 rfl rfl ?_
  refine LJ_iconst 1 dL_law_1195 (by decide) ?_
  refine LJ_iadd dL_law_1196 ?_
  refine LJ_sld dL_law_1197 hi1 ?_
  refine LJ_sload_n 0 0 77 dL_law_1198 rfl rfl ?_
  refine LJ_iload_n 3 3 (nI j) dL_law_1199 rfl rfl ?_
  refine LJ_iconst 2 dL_law_1200 (by decide) ?_
  refine LJ_iadd dL_law_1201 ?_
  refine LJ_sld dL_law_1202 hi2 ?_
  refine LJ_sload_n 0 0 77 dL_law_1203 rfl rfl ?_
  refine LJ_iload_n 3 3 (nI j) dL_law_1204 rfl rfl ?_
  refine LJ_iconst 3 dL_law_1205 (by decide) ?_
  refine LJ_iadd dL_law_1206 ?_
  refine LJ_sld dL_law_1207 hi3 ?_
  refine LJ_sload_n 0 0 77 dL_law_1208 rfl rfl ?_
  refine LJ_iload_n 3 3 (nI j) dL_law_1209 rfl rfl ?_
  refine LJ_iconst 4 dL_law_1210 (by decide) ?_
  refine LJ_iadd dL_law_1211 ?_
  refine LJ_sld dL_law_1212 hi4 ?_
  have hc2 := ct_X9_read F (n := 135) (by decide) P D T m1 (xs (nI j + 1).toNatClampNeg) (xs (nI j + 2).toNatClampNeg) (xs (nI j + 3).toNatClampNeg) (xs (nI j + 4).toNatClampNeg)
  rw [hz2] at hc2
  refine LJ_callV 113 9 4 [.int (xs (nI j + 1).toNatClampNeg), .int (xs (nI j + 2).toNatClampNeg), .int (xs (nI j + 3).toNatClampNeg), .int (xs (nI j + 4).toNatClampNeg)] dL_law_1213 mv_X9_read mv_X9_readv lk_L_160 hc2 rfl rfl (by decide) rfl (by decide) ⟨by decide, by decide⟩ (Nat.le_of_ble_eq_true rfl) ⟨Nat.le_refl _, Nat.le_refl _⟩ ?_
  exact LJ_icmp_eq 1257 dL_law_1216 (by decide) (fun _ => hnext m2 P D T hG2) (fun hne => absurd rfl hne)
def OP_torn (F : Nat) (G H : Mm → Nat → Nat → Option Nat → Prop) : Prop := ∀ (m : Mm) (P D : Nat) (T : Option Nat), G m P D T → ∃ z, f_X8_torn m = some z ∧ f_X9_torn m = some z ∧ H m P D T
set_option maxHeartbeats 4000000 in
set_option maxRecDepth 100000 in
theorem lc_35 {F : Nat} {G H : Mm → Nat → Nat → Option Nat → Prop} {b L j : Nat} {xs : Nat → Int32} {m : Mm} {P D : Nat} {T : Option Nat} (hG : G m P D T) (hpl : isPl P ∧ isPl D) (hi1 : vp_in (nI j + 1) L) (hi2 : vp_in (nI j + 2) L) (hi3 : vp_in (nI j + 3) L) (hi4 : vp_in (nI j + 4) L) (hop : OP_torn F G H) (hnext : ∀ m P D T, H m P D T → LJ b L xs 1257 [(0, .float 77), (1, .ref 0), (2, .ref 113), (3, .int (nI j))] [] 135 m (RF P D T)) : LJ b L xs 1221 [(0, .float 77), (1, .ref 0), (2, .ref 113), (3, .int (nI j))] [] 135 m (RF P D T) := by
  obtain ⟨z, hz1, hz2, hG2⟩ := hop m P D T hG 
  refine LJ_aload_n 1 1 0 dL_law_1221 rfl rfl ?_
  have hc1 := ct_X8_torn F (n := 135) (by decide) P D T m 
  rw [hz1] at hc1
  refine LJ_callV 0 8 0 [] dL_law_1222 mv_X8_torn mv_X8_tornv lk_L_161 hc1 rfl rfl (by decide) rfl (by decide) ⟨by decide, by decide⟩ (Nat.le_of_ble_eq_true rfl) ⟨Nat.le_refl _, Nat.le_refl _⟩ ?_
  refine LJ_aload_n 2 2 113 dL_law_1225 rfl rfl ?_
  have hc2 := ct_X9_torn F (n := 135) (by decide) P D T m 
  rw [hz2] at hc2
  refine LJ_callV 113 9 0 [] dL_law_1226 mv_X9_torn mv_X9_tornv lk_L_164 hc2 rfl rfl (by decide) rfl (by decide) ⟨by decide, by decide⟩ (Nat.le_of_ble_eq_true rfl) ⟨Nat.le_refl _, Nat.le_refl _⟩ ?_
  exact LJ_icmp_eq 1257 dL_law_1229 (by decide) (fun _ => hnext m P D T hG2) (fun hne => absurd rfl hne)
def OP_count (F : Nat) (G H : Mm → Nat → Nat → Option Nat → Prop) : Prop := ∀ (m : Mm) (P D : Nat) (T : Option Nat), G m P D T → ∀ (a1 : Int32), ∃ z, f_X8_count m P a1 = some z ∧ f_X9_count m a1 = some z ∧ H m P D T
set_option maxHeartbeats 4000000 in
set_option maxRecDepth 100000 in
theorem lc_36 {F : Nat} {G H : Mm → Nat → Nat → Option Nat → Prop} {b L j : Nat} {xs : Nat → Int32} {m : Mm} {P D : Nat} {T : Option Nat} (hG : G m P D T) (hpl : isPl P ∧ isPl D) (hi1 : vp_in (nI j + 1) L) (hi2 : vp_in (nI j + 2) L) (hi3 : vp_in (nI j + 3) L) (hi4 : vp_in (nI j + 4) L) (hop : OP_count F G H) (hnext : ∀ m P D T, H m P D T → LJ b L xs 1257 [(0, .float 77), (1, .ref 0), (2, .ref 113), (3, .int (nI j))] [] 135 m (RF P D T)) : LJ b L xs 1234 [(0, .float 77), (1, .ref 0), (2, .ref 113), (3, .int (nI j))] [] 135 m (RF P D T) := by
  obtain ⟨z, hz1, hz2, hG2⟩ := hop m P D T hG (xs (nI j + 1).toNatClampNeg)
  refine LJ_aload_n 1 1 0 dL_law_1234 rfl rfl ?_
  refine LJ_sload_n 0 0 77 dL_law_1235 rfl rfl ?_
  refine LJ_iload_n 3 3 (nI j) dL_law_1236 rfl rfl ?_
  refine LJ_iconst 1 dL_law_1237 (by decide) ?_
  refine LJ_iadd dL_law_1238 ?_
  refine LJ_sld dL_law_1239 hi1 ?_
  have hc1 := ct_X8_count F (n := 135) (by decide) P D T hpl.1 m (xs (nI j + 1).toNatClampNeg)
  rw [hz1] at hc1
  refine LJ_callV 0 8 1 [.int (xs (nI j + 1).toNatClampNeg)] dL_law_1240 mv_X8_count mv_X8_countv lk_L_165 hc1 rfl rfl (by decide) rfl (by decide) ⟨by decide, by decide⟩ (Nat.le_of_ble_eq_true rfl) ⟨Nat.le_refl _, Nat.le_refl _⟩ ?_
  refine LJ_aload_n 2 2 113 dL_law_1243 rfl rfl ?_
  refine LJ_sload_n 0 0 77 dL_law_1244 rfl rfl ?_
  refine LJ_iload_n 3 3 (nI j) dL_law_1245 rfl rfl ?_
  refine LJ_iconst 1 dL_law_1246 (by decide) ?_
  refine LJ_iadd dL_law_1247 ?_
  refine LJ_sld dL_law_1248 hi1 ?_
  have hc2 := ct_X9_count F (n := 135) (by decide) P D T m (xs (nI j + 1).toNatClampNeg)
  rw [hz2] at hc2
  refine LJ_callV 113 9 1 [.int (xs (nI j + 1).toNatClampNeg)] dL_law_1249 mv_X9_count mv_X9_countv lk_L_168 hc2 rfl rfl (by decide) rfl (by decide) ⟨by decide, by decide⟩ (Nat.le_of_ble_eq_true rfl) ⟨Nat.le_refl _, Nat.le_refl _⟩ ?_
  exact LJ_icmp_eq 1257 dL_law_1252 (by decide) (fun _ => hnext m P D T hG2) (fun hne => absurd rfl hne)
def OPS (F : Nat) (G H : Mm → Nat → Nat → Option Nat → Prop) : Prop := OP_feed F G H ∧ OP_end F G H ∧ OP_text F G H ∧ OP_fault F G H ∧ OP_hold F G H ∧ OP_door F G H ∧ OP_hole F G H ∧ OP_pump F G H ∧ OP_rule F G H ∧ OP_put F G H ∧ OP_go F G H ∧ OP_now F G H ∧ OP_keep F G H ∧ OP_back F G H ∧ OP_order F G H ∧ OP_given F G H ∧ OP_recall F G H ∧ OP_run F G H ∧ OP_water F G H ∧ OP_free F G H ∧ OP_best F G H ∧ OP_latest F G H ∧ OP_helps F G H ∧ OP_together F G H ∧ OP_beside F G H ∧ OP_most F G H ∧ OP_upright F G H ∧ OP_men F G H ∧ OP_dry F G H ∧ OP_sound F G H ∧ OP_wipe F G H ∧ OP_rates F G H ∧ OP_sheet F G H ∧ OP_lay F G H ∧ OP_read F G H ∧ OP_torn F G H ∧ OP_count F G H ∧ ∀ m P D T, G m P D T → H m P D T
def INI (F : Nat) (G : Mm → Nat → Nat → Option Nat → Prop) : Prop := ∃ mC mM, f_X8_init F (fun _ _ => 0) = some (none, mC, RF 43 60 none) ∧ (∀ b, 112 < b → mC b = fun _ => 0) ∧ f_X9_init F mC = some (none, mM, RF 43 60 none) ∧ G mM 43 60 none
theorem law_gt {L j : Nat} (hL : L ≤ 2560) (hj : j ≤ 3000) : nI L - 5 < nI j ↔ L < j + 5 := by
  have e5 : (5 : Int32) = nI 5 := by decide
  rw [Int32.lt_iff_toInt_lt, e5, pk_sub_toInt (by omega) (by decide), nI_toInt (by omega)]
  omega
theorem law_in {L j : Nat} (hL : L ≤ 2560) (k : Nat) (hk : j + k < L) {c : Int32} (hc : c = nI k) : vp_in (nI j + c) L := by
  rw [hc, nI_add]
  exact vp_in_nI hk (by omega)
set_option maxHeartbeats 4000000 in
set_option maxRecDepth 100000 in
theorem law_loop {F : Nat} {G : Nat → Mm → Nat → Nat → Option Nat → Prop} {b L : Nat} {xs : Nat → Int32} (hL : L ≤ 2560) (hpl0 : ∀ c m P D T, G c m P D T → isPl P ∧ isPl D) (hops : ∀ c, c < 512 → OPS F (G c) (G (c + 1))) : ∀ (k c j : Nat) (m : Mm) (P D : Nat) (T : Option Nat), c + k ≤ 512 → G c m P D T → L ≤ j + 5 * k → j ≤ L + 5 → LJ b L xs 18 [(0, .float 77), (1, .ref 0), (2, .ref 113), (3, .int (nI j))] [] 135 m (RF P D T) := by
  intro k
  induction k with
  | zero =>
    intro c j m P D T hck hG hj1 hj2
    refine LJ_iload_n 3 3 (nI j) dL_law_18 rfl rfl ?_
    refine LJ_sload_n 0 0 77 dL_law_19 rfl rfl ?_
    refine LJ_slen dL_law_20 ?_
    refine LJ_iconst 5 dL_law_21 (by decide) ?_
    refine LJ_isub dL_law_22 ?_
    refine LJ_icmp_gt 1263 dL_law_23 (by decide) (fun _ => ?_) (fun hc => ?_)
    · refine LJ_iconst 1 dL_law_1263 (by decide) ?_
      exact LJ_ret1 dL_law_1264
    · exact absurd ((law_gt hL (by omega)).mpr (by omega)) hc
  | succ k ih =>
    intro c j m P D T hck hG hj1 hj2
    refine LJ_iload_n 3 3 (nI j) dL_law_18 rfl rfl ?_
    refine LJ_sload_n 0 0 77 dL_law_19 rfl rfl ?_
    refine LJ_slen dL_law_20 ?_
    refine LJ_iconst 5 dL_law_21 (by decide) ?_
    refine LJ_isub dL_law_22 ?_
    refine LJ_icmp_gt 1263 dL_law_23 (by decide) (fun _ => ?_) (fun hc => ?_)
    · refine LJ_iconst 1 dL_law_1263 (by decide) ?_
      exact LJ_ret1 dL_law_1264
    · have hlt : j + 5 ≤ L := Nat.not_lt.mp (fun h => hc ((law_gt hL (by omega)).mpr h))
      have hi0 : vp_in (nI j) L := vp_in_nI (by omega) (by omega)
      have hi1 : vp_in (nI j + 1) L := law_in hL 1 (by omega) (by decide)
      have hi2 : vp_in (nI j + 2) L := law_in hL 2 (by omega) (by decide)
      have hi3 : vp_in (nI j + 3) L := law_in hL 3 (by omega) (by decide)
      have hi4 : vp_in (nI j + 4) L := law_in hL 4 (by omega) (by decide)
      have hpl := hpl0 c m P D T hG
      obtain ⟨o0, o1, o2, o3, o4, o5, o6, o7, o8, o9, o10, o11, o12, o13, o14, o15, o16, o17, o18, o19, o20, o21, o22, o23, o24, o25, o26, o27, o28, o29, o30, o31, o32, o33, o34, o35, o36, oS⟩ := hops c (by omega)
      have hnext : ∀ m P D T, G (c + 1) m P D T → LJ b L xs 1257 [(0, .float 77), (1, .ref 0), (2, .ref 113), (3, .int (nI j))] [] 135 m (RF P D T) := by
        intro m P D T hG
        have e5 : nI j + Int32.ofInt 5 = nI (j + 5) := by
          have : Int32.ofInt 5 = nI 5 := by decide
          rw [this, nI_add]
        refine LJ_iinc 3 3 [(3, .int (nI (j + 5))), (0, .float 77), (1, .ref 0), (2, .ref 113)] (nI j) (nI (j + 5)) dL_law_1257 rfl e5 (by decide) rfl ?_
        refine LJ_goto 18 dL_law_1260 (by decide) ?_
        exact LJ_lv [1, 2, 3, 0] rfl (ih (c + 1) (j + 5) m P D T (by omega) hG (by omega) (by omega))
      refine LJ_sload_n 0 0 77 dL_law_26 rfl rfl ?_
      refine LJ_iload_n 3 3 (nI j) dL_law_27 rfl rfl ?_
      refine LJ_sld dL_law_28 hi0 ?_
      refine LJ_bipush 63 dL_law_29 (by decide) ?_
      refine LJ_iand dL_law_31 ?_
      generalize xs (nI j).toNatClampNeg &&& 63 = x1
      by_cases hs0 : x1 = 0
      · refine LJ_tsIn 196 hs0 dL_law_32 (by decide) (by decide) rfl (by decide) ?_
        exact lc_0 hG hpl hi1 hi2 hi3 hi4 o0 hnext
      by_cases hs1 : x1 = 1
      · refine LJ_tsIn 249 hs1 dL_law_32 (by decide) (by decide) rfl (by decide) ?_
        exact lc_1 hG hpl hi1 hi2 hi3 hi4 o1 hnext
      by_cases hs2 : x1 = 2
      · refine LJ_tsIn 272 hs2 dL_law_32 (by decide) (by decide) rfl (by decide) ?_
        exact lc_2 hG hpl hi1 hi2 hi3 hi4 o2 hnext
      by_cases hs3 : x1 = 3
      · refine LJ_tsIn 285 hs3 dL_law_32 (by decide) (by decide) rfl (by decide) ?_
        exact lc_3 hG hpl hi1 hi2 hi3 hi4 o3 hnext
      by_cases hs4 : x1 = 4
      · refine LJ_tsIn 298 hs4 dL_law_32 (by decide) (by decide) rfl (by decide) ?_
        exact lc_4 hG hpl hi1 hi2 hi3 hi4 o4 hnext
      by_cases hs5 : x1 = 5
      · refine LJ_tsIn 331 hs5 dL_law_32 (by decide) (by decide) rfl (by decide) ?_
        exact lc_5 hG hpl hi1 hi2 hi3 hi4 o5 hnext
      by_cases hs6 : x1 = 6
      · refine LJ_tsIn 364 hs6 dL_law_32 (by decide) (by decide) rfl (by decide) ?_
        exact lc_6 hG hpl hi1 hi2 hi3 hi4 o6 hnext
      by_cases hs7 : x1 = 7
      · refine LJ_tsIn 397 hs7 dL_law_32 (by decide) (by decide) rfl (by decide) ?_
        exact lc_7 hG hpl hi1 hi2 hi3 hi4 o7 hnext
      by_cases hs8 : x1 = 8
      · refine LJ_tsIn 430 hs8 dL_law_32 (by decide) (by decide) rfl (by decide) ?_
        exact lc_8 hG hpl hi1 hi2 hi3 hi4 o8 hnext
      by_cases hs9 : x1 = 9
      · refine LJ_tsIn 453 hs9 dL_law_32 (by decide) (by decide) rfl (by decide) ?_
        exact lc_9 hG hpl hi1 hi2 hi3 hi4 o9 hnext
      by_cases hs10 : x1 = 10
      · refine LJ_tsIn 486 hs10 dL_law_32 (by decide) (by decide) rfl (by decide) ?_
        exact lc_10 hG hpl hi1 hi2 hi3 hi4 o10 hnext
      by_cases hs11 : x1 = 11
      · refine LJ_tsIn 509 hs11 dL_law_32 (by decide) (by decide) rfl (by decide) ?_
        exact lc_11 hG hpl hi1 hi2 hi3 hi4 o11 hnext
      by_cases hs12 : x1 = 12
      · refine LJ_tsIn 532 hs12 dL_law_32 (by decide) (by decide) rfl (by decide) ?_
        exact lc_12 hG hpl hi1 hi2 hi3 hi4 o12 hnext
      by_cases hs13 : x1 = 13
      · refine LJ_tsIn 555 hs13 dL_law_32 (by decide) (by decide) rfl (by decide) ?_
        exact lc_13 hG hpl hi1 hi2 hi3 hi4 o13 hnext
      by_cases hs14 : x1 = 14
      · refine LJ_tsIn 578 hs14 dL_law_32 (by decide) (by decide) rfl (by decide) ?_
        exact lc_14 hG hpl hi1 hi2 hi3 hi4 o14 hnext
      by_cases hs15 : x1 = 15
      · refine LJ_tsIn 631 hs15 dL_law_32 (by decide) (by decide) rfl (by decide) ?_
        exact lc_15 hG hpl hi1 hi2 hi3 hi4 o15 hnext
      by_cases hs16 : x1 = 16
      · refine LJ_tsIn 664 hs16 dL_law_32 (by decide) (by decide) rfl (by decide) ?_
        exact lc_16 hG hpl hi1 hi2 hi3 hi4 o16 hnext
      by_cases hs17 : x1 = 17
      · refine LJ_tsIn 677 hs17 dL_law_32 (by decide) (by decide) rfl (by decide) ?_
        exact lc_17 hG hpl hi1 hi2 hi3 hi4 o17 hnext
      by_cases hs18 : x1 = 18
      · refine LJ_tsIn 710 hs18 dL_law_32 (by decide) (by decide) rfl (by decide) ?_
        exact lc_18 hG hpl hi1 hi2 hi3 hi4 o18 hnext
      by_cases hs19 : x1 = 19
      · refine LJ_tsIn 743 hs19 dL_law_32 (by decide) (by decide) rfl (by decide) ?_
        exact lc_19 hG hpl hi1 hi2 hi3 hi4 o19 hnext
      by_cases hs20 : x1 = 20
      · refine LJ_tsIn 766 hs20 dL_law_32 (by decide) (by decide) rfl (by decide) ?_
        exact lc_20 hG hpl hi1 hi2 hi3 hi4 o20 hnext
      by_cases hs21 : x1 = 21
      · refine LJ_tsIn 809 hs21 dL_law_32 (by decide) (by decide) rfl (by decide) ?_
        exact lc_21 hG hpl hi1 hi2 hi3 hi4 o21 hnext
      by_cases hs22 : x1 = 22
      · refine LJ_tsIn 842 hs22 dL_law_32 (by decide) (by decide) rfl (by decide) ?_
        exact lc_22 hG hpl hi1 hi2 hi3 hi4 o22 hnext
      by_cases hs23 : x1 = 23
      · refine LJ_tsIn 865 hs23 dL_law_32 (by decide) (by decide) rfl (by decide) ?_
        exact lc_23 hG hpl hi1 hi2 hi3 hi4 o23 hnext
      by_cases hs24 : x1 = 24
      · refine LJ_tsIn 888 hs24 dL_law_32 (by decide) (by decide) rfl (by decide) ?_
        exact lc_24 hG hpl hi1 hi2 hi3 hi4 o24 hnext
      by_cases hs25 : x1 = 25
      · refine LJ_tsIn 921 hs25 dL_law_32 (by decide) (by decide) rfl (by decide) ?_
        exact lc_25 hG hpl hi1 hi2 hi3 hi4 o25 hnext
      by_cases hs26 : x1 = 26
      · refine LJ_tsIn 944 hs26 dL_law_32 (by decide) (by decide) rfl (by decide) ?_
        exact lc_26 hG hpl hi1 hi2 hi3 hi4 o26 hnext
      by_cases hs27 : x1 = 27
      · refine LJ_tsIn 967 hs27 dL_law_32 (by decide) (by decide) rfl (by decide) ?_
        exact lc_27 hG hpl hi1 hi2 hi3 hi4 o27 hnext
      by_cases hs28 : x1 = 28
      · refine LJ_tsIn 990 hs28 dL_law_32 (by decide) (by decide) rfl (by decide) ?_
        exact lc_28 hG hpl hi1 hi2 hi3 hi4 o28 hnext
      by_cases hs29 : x1 = 29
      · refine LJ_tsIn 1023 hs29 dL_law_32 (by decide) (by decide) rfl (by decide) ?_
        exact lc_29 hG hpl hi1 hi2 hi3 hi4 o29 hnext
      by_cases hs30 : x1 = 30
      · refine LJ_tsIn 1046 hs30 dL_law_32 (by decide) (by decide) rfl (by decide) ?_
        exact lc_30 hG hpl hi1 hi2 hi3 hi4 o30 hnext
      by_cases hs31 : x1 = 31
      · refine LJ_tsIn 1059 hs31 dL_law_32 (by decide) (by decide) rfl (by decide) ?_
        exact lc_31 hG hpl hi1 hi2 hi3 hi4 o31 hnext
      by_cases hs32 : x1 = 32
      · refine LJ_tsIn 1082 hs32 dL_law_32 (by decide) (by decide) rfl (by decide) ?_
        exact lc_32 hG hpl hi1 hi2 hi3 hi4 o32 hnext
      by_cases hs33 : x1 = 33
      · refine LJ_tsIn 1125 hs33 dL_law_32 (by decide) (by decide) rfl (by decide) ?_
        exact lc_33 hG hpl hi1 hi2 hi3 hi4 o33 hnext
      by_cases hs34 : x1 = 34
      · refine LJ_tsIn 1168 hs34 dL_law_32 (by decide) (by decide) rfl (by decide) ?_
        exact lc_34 hG hpl hi1 hi2 hi3 hi4 o34 hnext
      by_cases hs35 : x1 = 35
      · refine LJ_tsIn 1221 hs35 dL_law_32 (by decide) (by decide) rfl (by decide) ?_
        exact lc_35 hG hpl hi1 hi2 hi3 hi4 o35 hnext
      by_cases hs36 : x1 = 36
      · refine LJ_tsIn 1234 hs36 dL_law_32 (by decide) (by decide) rfl (by decide) ?_
        exact lc_36 hG hpl hi1 hi2 hi3 hi4 o36 hnext
      refine LJ_tsOut 1257 dL_law_32 (ts_out [0, 1, 2, 3, 4, 5, 6, 7, 8, 9, 10, 11, 12, 13, 14, 15, 16, 17, 18, 19, 20, 21, 22, 23, 24, 25, 26, 27, 28, 29, 30, 31, 32, 33, 34, 35, 36] (by decide) (by simp only [List.mem_cons, List.not_mem_nil, or_false, forall_eq_or_imp, forall_eq]; exact ⟨hs0, hs1, hs2, hs3, hs4, hs5, hs6, hs7, hs8, hs9, hs10, hs11, hs12, hs13, hs14, hs15, hs16, hs17, hs18, hs19, hs20, hs21, hs22, hs23, hs24, hs25, hs26, hs27, hs28, hs29, hs30, hs31, hs32, hs33, hs34, hs35, hs36⟩)) (by decide) ?_
      exact hnext m P D T (oS m P D T hG)
theorem LLc_lt : ∀ q ∈ LLc, q.1 < 113 := by decide +kernel
set_option maxHeartbeats 4000000 in
set_option maxRecDepth 100000 in
theorem law_begin {F : Nat} {G : Nat → Mm → Nat → Nat → Option Nat → Prop} {b L : Nat} {xs : Nat → Int32} (hL : L ≤ 2560) (hpl0 : ∀ c m P D T, G c m P D T → isPl P ∧ isPl D) (hini : INI F (G 0)) (hops : ∀ c, c < 512 → OPS F (G c) (G (c + 1))) : LJ b L xs 0 [(0, .float 77)] [] 0 (fun _ _ => 0) (rL []) := by
  obtain ⟨mC, mM, h8, hz, h9, hG⟩ := hini
  refine LJ_new 8 dL_law_0 (by decide) cl_L_7 ins_L8 ini_L8 rfl (fun _ => rfl) (fun _ => rfl) (by decide) ?_
  refine LJ_dup dL_law_3 rfl ?_
  have hc1 := ct_X8_init F (fun _ _ => 0) (fun _ _ => rfl)
  rw [h8] at hc1
  refine LJ_callI 0 0 [] dL_law_4 mv_X8_init rfl rfl mvI_X8_init lk_L_9 hc1 rfl ⟨by decide, by decide⟩ (Nat.le_of_ble_eq_true rfl) ⟨by decide, by decide⟩ ?_
  refine LJ_astore_n 1 [(1, .ref 0), (0, .float 77)] dL_law_7 rfl (by decide) rfl ?_
  refine LJ_rcong (r1 := rL LLc) (fun a ha => (r_all a ha).symm) ?_
  refine LJ_new 9 dL_law_8 (by decide) cl_L_10 ins_L9 ini_L9 rfl (fun j => by rw [hz 113 (by decide)]) (rL_none LLc_lt) (by decide) ?_
  refine LJ_dup dL_law_11 rfl ?_
  have hc2 := ct_X9_init F mC (fun b hb => hz b (by omega))
  rw [h9] at hc2
  refine LJ_callI 113 0 [] dL_law_12 mv_X9_init rfl rfl mvI_X9_init lk_L_12 hc2 rfl ⟨by decide, by decide⟩ (Nat.le_of_ble_eq_true rfl) ⟨by decide, by decide⟩ ?_
  refine LJ_astore_n 2 [(2, .ref 113), (1, .ref 0), (0, .float 77)] dL_law_15 rfl (by decide) rfl ?_
  refine LJ_iconst 0 dL_law_16 (by decide) ?_
  refine LJ_istore_n 3 [(3, .int 0), (2, .ref 113), (1, .ref 0), (0, .float 77)] dL_law_17 rfl (by decide) rfl ?_
  refine LJ_lv (lw := [(0, .float 77), (1, .ref 0), (2, .ref 113), (3, .int (nI 0))]) [3, 2, 1, 0] rfl ?_
  exact law_loop hL hpl0 hops 512 0 0 mM 43 60 none (by omega) hG (by omega) (by omega)
