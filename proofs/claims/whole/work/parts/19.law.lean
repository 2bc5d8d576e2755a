def ag_come (Inv : Nat → fm_M → Prop) : Prop := ∀ (t : Nat) (m : fm_M) (x1 : Int32) (x2 : Int32), t < 512 → Inv t m → (x2 = 0 ∨ x2 = 1) → ∃ r m1 m2, f_X6_come x1 x2 m = some (r, m1) ∧ f_X7_come x1 x2 m1 = some (r, m2) ∧ Inv (t + 1) m2
def ag_withdraw (Inv : Nat → fm_M → Prop) : Prop := ∀ (t : Nat) (m : fm_M) (x1 : Int32), t < 512 → Inv t m → ∃ r m1 m2, f_X6_withdraw x1 m = some (r, m1) ∧ f_X7_withdraw x1 m1 = some (r, m2) ∧ Inv (t + 1) m2
def ag_voice (Inv : Nat → fm_M → Prop) : Prop := ∀ (t : Nat) (m : fm_M) (x1 : Int32) (x2 : Int32), t < 512 → Inv t m → ∃ r m1 m2, f_X6_voice x1 x2 m = some (r, m1) ∧ f_X7_voice x1 x2 m1 = some (r, m2) ∧ Inv (t + 1) m2
def ag_choose (Inv : Nat → fm_M → Prop) : Prop := ∀ (t : Nat) (m : fm_M) (x1 : Int32), t < 512 → Inv t m → ∃ r m1 m2, f_X6_choose x1 m = some (r, m1) ∧ f_X7_choose x1 m1 = some (r, m2) ∧ Inv (t + 1) m2
def ag_leave (Inv : Nat → fm_M → Prop) : Prop := ∀ (t : Nat) (m : fm_M) (x1 : Int32), t < 512 → Inv t m → ∃ r m1 m2, f_X6_leave x1 m = some (r, m1) ∧ f_X7_leave x1 m1 = some (r, m2) ∧ Inv (t + 1) m2
def ag_feast (Inv : Nat → fm_M → Prop) : Prop := ∀ (t : Nat) (m : fm_M) (x1 : Int32) (x2 : Int32), t < 512 → Inv t m → ∃ r m1 m2, f_X6_feast x1 x2 m = some (r, m1) ∧ f_X7_feast x1 x2 m1 = some (r, m2) ∧ Inv (t + 1) m2
def ag_breach (Inv : Nat → fm_M → Prop) : Prop := ∀ (t : Nat) (m : fm_M) (x1 : Int32) (x2 : Int32), t < 512 → Inv t m → ∃ r m1 m2, f_X6_breach x1 x2 m = some (r, m1) ∧ f_X7_breach x1 x2 m1 = some (r, m2) ∧ Inv (t + 1) m2
def ag_pardon (Inv : Nat → fm_M → Prop) : Prop := ∀ (t : Nat) (m : fm_M) (x1 : Int32), t < 512 → Inv t m → ∃ r m1 m2, f_X6_pardon x1 m = some (r, m1) ∧ f_X7_pardon x1 m1 = some (r, m2) ∧ Inv (t + 1) m2
def ag_gift (Inv : Nat → fm_M → Prop) : Prop := ∀ (t : Nat) (m : fm_M) (x1 : Int32), t < 512 → Inv t m → ∃ r m1 m2, f_X6_gift x1 m = some (r, m1) ∧ f_X7_gift x1 m1 = some (r, m2) ∧ Inv (t + 1) m2
def ag_weeks (Inv : Nat → fm_M → Prop) : Prop := ∀ (t : Nat) (m : fm_M) (x1 : Int32), t < 512 → Inv t m → ∃ r m1 m2, f_X6_weeks x1 m = some (r, m1) ∧ f_X7_weeks x1 m1 = some (r, m2) ∧ Inv (t + 1) m2
def ag_brotherOf (Inv : Nat → fm_M → Prop) : Prop := ∀ (t : Nat) (m : fm_M) (x1 : Int32) (x2 : Int32), t < 512 → Inv t m → ∃ r, f_X6_brotherOf x1 x2 m = some r ∧ f_X7_brotherOf x1 x2 m = some r ∧ Inv (t + 1) m
def ag_broke (Inv : Nat → fm_M → Prop) : Prop := ∀ (t : Nat) (m : fm_M) (x1 : Int32) (x2 : Int32), t < 512 → Inv t m → ∃ r, f_X6_broke x1 x2 m = some r ∧ f_X7_broke x1 x2 m = some r ∧ Inv (t + 1) m
def ag_inCell (Inv : Nat → fm_M → Prop) : Prop := ∀ (t : Nat) (m : fm_M) (x1 : Int32), t < 512 → Inv t m → ∃ r, f_X6_inCell x1 m = some r ∧ f_X7_inCell x1 m = some r ∧ Inv (t + 1) m
def ag_entitled (Inv : Nat → fm_M → Prop) : Prop := ∀ (t : Nat) (m : fm_M), t < 512 → Inv t m → ∃ r, f_X6_entitled m = some r ∧ f_X7_entitled m = some r ∧ Inv (t + 1) m
def ag_entitledAgain (Inv : Nat → fm_M → Prop) : Prop := ∀ (t : Nat) (m : fm_M), t < 512 → Inv t m → ∃ r, f_X6_entitledAgain m = some r ∧ f_X7_entitledAgain m = some r ∧ Inv (t + 1) m
def ag_voices (Inv : Nat → fm_M → Prop) : Prop := ∀ (t : Nat) (m : fm_M) (x1 : Int32), t < 512 → Inv t m → ∃ r, f_X6_voices x1 m = some r ∧ f_X7_voices x1 m = some r ∧ Inv (t + 1) m
def ag_voicesAgain (Inv : Nat → fm_M → Prop) : Prop := ∀ (t : Nat) (m : fm_M) (x1 : Int32), t < 512 → Inv t m → ∃ r m1 m2, f_X6_voicesAgain x1 m = some (r, m1) ∧ f_X7_voicesAgain x1 m1 = some (r, m2) ∧ Inv (t + 1) m2
def ag_ranked (Inv : Nat → fm_M → Prop) : Prop := ∀ (t : Nat) (m : fm_M) (x1 : Int32), t < 512 → Inv t m → ∃ r m1, f_X6_ranked x1 m = some (r, m1) ∧ f_X7_ranked x1 m1 = some r ∧ Inv (t + 1) m1
def ag_senior (Inv : Nat → fm_M → Prop) : Prop := ∀ (t : Nat) (m : fm_M) (x1 : Int32), t < 512 → Inv t m → ∃ r m1, f_X6_senior x1 m = some (r, m1) ∧ f_X7_senior x1 m1 = some r ∧ Inv (t + 1) m1
def ag_shabby (Inv : Nat → fm_M → Prop) : Prop := ∀ (t : Nat) (m : fm_M) (x1 : Int32), t < 512 → Inv t m → ∃ r m1, f_X6_shabby x1 m = some (r, m1) ∧ f_X7_shabby x1 m1 = some r ∧ Inv (t + 1) m1
def ag_nextFeast (Inv : Nat → fm_M → Prop) : Prop := ∀ (t : Nat) (m : fm_M), t < 512 → Inv t m → ∃ r, f_X6_nextFeast m = some r ∧ f_X7_nextFeast m = some r ∧ Inv (t + 1) m
def ag_wouldGet (Inv : Nat → fm_M → Prop) : Prop := ∀ (t : Nat) (m : fm_M) (x1 : Int32) (x2 : Int32), t < 512 → Inv t m → ∃ r m1 m2, f_X6_wouldGet x1 x2 m = some (r, m1) ∧ f_X7_wouldGet x1 x2 m1 = some (r, m2) ∧ Inv (t + 1) m2
def ag_chestIn (Inv : Nat → fm_M → Prop) : Prop := ∀ (t : Nat) (m : fm_M) (x1 : Int32), t < 512 → Inv t m → ∃ r m1 m2, f_X6_chestIn x1 m = some (r, m1) ∧ f_X7_chestIn x1 m1 = some (r, m2) ∧ Inv (t + 1) m2
def ag_append (Inv : Nat → fm_M → Prop) : Prop := ∀ (t : Nat) (m : fm_M) (x1 : Int32), t < 512 → Inv t m → ∃ r m1 m2, f_X6_append x1 m = some (r, m1) ∧ f_X7_append x1 m1 = some (r, m2) ∧ Inv (t + 1) m2
def ag_run (Inv : Nat → fm_M → Prop) : Prop := ∀ (t : Nat) (m : fm_M), t < 512 → Inv t m → ∃ r m1 m2, f_X6_run m = some (r, m1) ∧ f_X7_run m1 = some (r, m2) ∧ Inv (t + 1) m2
def ag_tell (Inv : Nat → fm_M → Prop) : Prop := ∀ (t : Nat) (m : fm_M), t < 512 → Inv t m → ∃ r m1 m2, f_X6_tell m = some (r, m1) ∧ f_X7_tell m1 = some (r, m2) ∧ Inv (t + 1) m2
def ag_tellWaiting (Inv : Nat → fm_M → Prop) : Prop := ∀ (t : Nat) (m : fm_M), t < 512 → Inv t m → ∃ r m1 m2, f_X6_tellWaiting m = some (r, m1) ∧ f_X7_tellWaiting m1 = some (r, m2) ∧ Inv (t + 1) m2
def ag_character (Inv : Nat → fm_M → Prop) : Prop := ∀ (t : Nat) (m : fm_M) (x1 : Int32), t < 512 → Inv t m → ∃ r, f_X6_character x1 m = some r ∧ f_X7_character x1 m = some r ∧ Inv (t + 1) m
def ag_reason (Inv : Nat → fm_M → Prop) : Prop := ∀ (t : Nat) (m : fm_M) (x1 : Int32), t < 512 → Inv t m → (x1 = 0 ∨ x1 = 1) → ∃ r, f_X6_reason x1 m = some r ∧ f_X7_reason x1 m = some r ∧ Inv (t + 1) m
def ag_account (Inv : Nat → fm_M → Prop) : Prop := ∀ (t : Nat) (m : fm_M) (x1 : Int32), t < 512 → Inv t m → ∃ r, f_X6_account x1 m = some r ∧ f_X7_account x1 m = some r ∧ Inv (t + 1) m
def ag_isBalanced (Inv : Nat → fm_M → Prop) : Prop := ∀ (t : Nat) (m : fm_M), t < 512 → Inv t m → ∃ r, f_X6_isBalanced m = some r ∧ f_X7_isBalanced m = some r ∧ Inv (t + 1) m
def ag_meanAge (Inv : Nat → fm_M → Prop) : Prop := ∀ (t : Nat) (m : fm_M), t < 512 → Inv t m → ∃ r, f_X6_meanAge m = some r ∧ f_X7_meanAge m = some r ∧ Inv (t + 1) m
def ag_entitledShare (Inv : Nat → fm_M → Prop) : Prop := ∀ (t : Nat) (m : fm_M), t < 512 → Inv t m → ∃ r, f_X6_entitledShare m = some r ∧ f_X7_entitledShare m = some r ∧ Inv (t + 1) m
def ag_undo (Inv : Nat → fm_M → Prop) : Prop := ∀ (t : Nat) (m : fm_M), t < 512 → Inv t m → ∃ r m1 m2, f_X6_undo m = some (r, m1) ∧ f_X7_undo m1 = some (r, m2) ∧ Inv (t + 1) m2
def ag_save (Inv : Nat → fm_M → Prop) : Prop := ∀ (t : Nat) (m : fm_M), t < 512 → Inv t m → ∃ r m1 m2, f_X6_save m = some (r, m1) ∧ f_X7_save m1 = some (r, m2) ∧ Inv (t + 1) m2
def ag_restore (Inv : Nat → fm_M → Prop) : Prop := ∀ (t : Nat) (m : fm_M), t < 512 → Inv t m → ∃ r m1 m2, f_X6_restore m = some (r, m1) ∧ f_X7_restore m1 = some (r, m2) ∧ Inv (t + 1) m2
set_option maxRecDepth 100000 in
set_option maxHeartbeats 4000000 in
theorem lc_0 {Inv : Nat → fm_M → Prop} (ha : ag_come Inv) {L : Nat} {xs : Nat → Int32} {Post : Option Value → fm_M → Prop} {t : Nat} {m : fm_M} {x3 : Int32} (ht : t < 512) (hi : Inv t m) (hv1 : vp_in (x3 + 1) L) (hv2 : vp_in (x3 + 2) L) (hk : ∀ m', Inv (t + 1) m' → fm_GL L xs fm_layW 11 m_L_law Post 1060 [some (.ref 4000), some (.ref 0), some (.ref 23), some (.int x3), none, none, none, none] [] m') : fm_GL L xs fm_layW 11 m_L_law Post 192 [some (.ref 4000), some (.ref 0), some (.ref 23), some (.int x3), none, none, none, none] [] m := by
  refine gl_aload_n (pc := 192) dL_law_192 rfl rfl ?_
  refine gl_aload_n (pc := 193) dL_law_193 rfl rfl ?_
  refine gl_iload_n (pc := 194) dL_law_194 rfl rfl ?_
  refine gl_iconst (pc := 195) (v := (1 : Int32)) dL_law_195 (by decide) ?_
  refine gl_iadd (pc := 196) dL_law_196 ?_
  refine gl_sld (pc := 197) dL_law_197 hv1 ?_
  refine gl_aload_n (pc := 198) dL_law_198 rfl rfl ?_
  refine gl_iload_n (pc := 199) dL_law_199 rfl rfl ?_
  refine gl_iconst (pc := 200) (v := (2 : Int32)) dL_law_200 (by decide) ?_
  refine gl_iadd (pc := 201) dL_law_201 ?_
  refine gl_sld (pc := 202) dL_law_202 hv2 ?_
  by_cases hz : xs (x3 + (2 : Int32)).toNatClampNeg = 0
  · refine gl_if_eq (pc := 203) (tgt := 210) dL_law_203 (by decide) (fun _ => ?_) (fun c => absurd hz c)
    refine gl_iconst (pc := 210) (v := (0 : Int32)) dL_law_210 (by decide) ?_
    obtain ⟨r, m1, m2, h1, h2, hi2⟩ := ha t m ((xs (x3 + (1 : Int32)).toNatClampNeg)) ((0 : Int32)) ht hi (by decide)
    refine gl_callVi (pc := 211) (As := [.int (xs (x3 + (1 : Int32)).toNatClampNeg), .int (0 : Int32)]) (st := []) dL_law_211 (c_X6_come _ _ _ h1) (by decide) ce_X6_come ml_L_13 in_X6_come se_X6_come cl_X6 rfl rfl (Nat.le_of_ble_eq_true rfl) rfl ?_
    refine gl_aload_n (pc := 214) dL_law_214 rfl rfl ?_
    refine gl_aload_n (pc := 215) dL_law_215 rfl rfl ?_
    refine gl_iload_n (pc := 216) dL_law_216 rfl rfl ?_
    refine gl_iconst (pc := 217) (v := (1 : Int32)) dL_law_217 (by decide) ?_
    refine gl_iadd (pc := 218) dL_law_218 ?_
    refine gl_sld (pc := 219) dL_law_219 hv1 ?_
    refine gl_aload_n (pc := 220) dL_law_220 rfl rfl ?_
    refine gl_iload_n (pc := 221) dL_law_221 rfl rfl ?_
    refine gl_iconst (pc := 222) (v := (2 : Int32)) dL_law_222 (by decide) ?_
    refine gl_iadd (pc := 223) dL_law_223 ?_
    refine gl_sld (pc := 224) dL_law_224 hv2 ?_
    refine gl_if_eq (pc := 225) (tgt := 232) dL_law_225 (by decide) (fun _ => ?_) (fun c => absurd hz c)
    refine gl_iconst (pc := 232) (v := (0 : Int32)) dL_law_232 (by decide) ?_
    refine gl_callVi (pc := 233) (As := [.int (xs (x3 + (1 : Int32)).toNatClampNeg), .int (0 : Int32)]) (st := [.int r]) dL_law_233 (c_X7_come _ _ _ h2) (by decide) ce_X7_come ml_L_17 in_X7_come se_X7_come cl_X7 rfl rfl (Nat.le_of_ble_eq_true rfl) rfl ?_
    refine gl_icmp_eq (pc := 236) (tgt := 1060) dL_law_236 (by decide) (fun _ => ?_) (fun c => absurd rfl c)
    exact hk _ hi2
  · refine gl_if_eq (pc := 203) (tgt := 210) dL_law_203 (by decide) (fun c => absurd c hz) (fun _ => ?_)
    refine gl_iconst (pc := 206) (v := (1 : Int32)) dL_law_206 (by decide) ?_
    refine gl_goto (pc := 207) (tgt := 211) dL_law_207 (by decide) ?_
    obtain ⟨r, m1, m2, h1, h2, hi2⟩ := ha t m ((xs (x3 + (1 : Int32)).toNatClampNeg)) ((1 : Int32)) ht hi (by decide)
    refine gl_callVi (pc := 211) (As := [.int (xs (x3 + (1 : Int32)).toNatClampNeg), .int (1 : Int32)]) (st := []) dL_law_211 (c_X6_come _ _ _ h1) (by decide) ce_X6_come ml_L_13 in_X6_come se_X6_come cl_X6 rfl rfl (Nat.le_of_ble_eq_true rfl) rfl ?_
    refine gl_aload_n (pc := 214) dL_law_214 rfl rfl ?_
    refine gl_aload_n (pc := 215) dL_law_215 rfl rfl ?_
    refine gl_iload_n (pc := 216) dL_law_216 rfl rfl ?_
    refine gl_iconst (pc := 217) (v := (1 : Int32)) dL_law_217 (by decide) ?_
    refine gl_iadd (pc := 218) dL_law_218 ?_
    refine gl_sld (pc := 219) dL_law_219 hv1 ?_
    refine gl_aload_n (pc := 220) dL_law_220 rfl rfl ?_
    refine gl_iload_n (pc := 221) dL_law_221 rfl rfl ?_
    refine gl_iconst (pc := 222) (v := (2 : Int32)) dL_law_222 (by decide) ?_
    refine gl_iadd (pc := 223) dL_law_223 ?_
    refine gl_sld (pc := 224) dL_law_224 hv2 ?_
    refine gl_if_eq (pc := 225) (tgt := 232) dL_law_225 (by decide) (fun c => absurd c hz) (fun _ => ?_)
    refine gl_iconst (pc := 228) (v := (1 : Int32)) dL_law_228 (by decide) ?_
    refine gl_goto (pc := 229) (tgt := 233) dL_law_229 (by decide) ?_
    refine gl_callVi (pc := 233) (As := [.int (xs (x3 + (1 : Int32)).toNatClampNeg), .int (1 : Int32)]) (st := [.int r]) dL_law_233 (c_X7_come _ _ _ h2) (by decide) ce_X7_come ml_L_17 in_X7_come se_X7_come cl_X7 rfl rfl (Nat.le_of_ble_eq_true rfl) rfl ?_
    refine gl_icmp_eq (pc := 236) (tgt := 1060) dL_law_236 (by decide) (fun _ => ?_) (fun c => absurd rfl c)
    exact hk _ hi2
set_option maxRecDepth 100000 in
set_option maxHeartbeats 4000000 in
theorem lc_1 {Inv : Nat → fm_M → Prop} (ha : ag_withdraw Inv) {L : Nat} {xs : Nat → Int32} {Post : Option Value → fm_M → Prop} {t : Nat} {m : fm_M} {x3 : Int32} (ht : t < 512) (hi : Inv t m) (hv1 : vp_in (x3 + 1) L) (hv2 : vp_in (x3 + 2) L) (hk : ∀ m', Inv (t + 1) m' → fm_GL L xs fm_layW 11 m_L_law Post 1060 [some (.ref 4000), some (.ref 0), some (.ref 23), some (.int x3), none, none, none, none] [] m') : fm_GL L xs fm_layW 11 m_L_law Post 241 [some (.ref 4000), some (.ref 0), some (.ref 23), some (.int x3), none, none, none, none] [] m := by
  refine gl_aload_n (pc := 241) dL_law_241 rfl rfl ?_
  refine gl_aload_n (pc := 242) dL_law_242 rfl rfl ?_
  refine gl_iload_n (pc := 243) dL_law_243 rfl rfl ?_
  refine gl_iconst (pc := 244) (v := (1 : Int32)) dL_law_244 (by decide) ?_
  refine gl_iadd (pc := 245) dL_law_245 ?_
  refine gl_sld (pc := 246) dL_law_246 hv1 ?_
  obtain ⟨r, m1, m2, h1, h2, hi2⟩ := ha t m ((xs (x3 + (1 : Int32)).toNatClampNeg)) ht hi
  refine gl_callVi (pc := 247) (As := [.int (xs (x3 + (1 : Int32)).toNatClampNeg)]) (st := []) dL_law_247 (c_X6_withdraw _ _ h1) (by decide) ce_X6_withdraw ml_L_18 in_X6_withdraw se_X6_withdraw cl_X6 rfl rfl (Nat.le_of_ble_eq_true rfl) rfl ?_
  refine gl_aload_n (pc := 250) dL_law_250 rfl rfl ?_
  refine gl_aload_n (pc := 251) dL_law_251 rfl rfl ?_
  refine gl_iload_n (pc := 252) dL_law_252 rfl rfl ?_
  refine gl_iconst (pc := 253) (v := (1 : Int32)) dL_law_253 (by decide) ?_
  refine gl_iadd (pc := 254) dL_law_254 ?_
  refine gl_sld (pc := 255) dL_law_255 hv1 ?_
  refine gl_callVi (pc := 256) (As := [.int (xs (x3 + (1 : Int32)).toNatClampNeg)]) (st := [.int r]) dL_law_256 (c_X7_withdraw _ _ h2) (by decide) ce_X7_withdraw ml_L_22 in_X7_withdraw se_X7_withdraw cl_X7 rfl rfl (Nat.le_of_ble_eq_true rfl) rfl ?_
  refine gl_icmp_eq (pc := 259) (tgt := 1060) dL_law_259 (by decide) (fun _ => ?_) (fun c => absurd rfl c)
  exact hk _ hi2
set_option maxRecDepth 100000 in
set_option maxHeartbeats 4000000 in
theorem lc_2 {Inv : Nat → fm_M → Prop} (ha : ag_voice Inv) {L : Nat} {xs : Nat → Int32} {Post : Option Value → fm_M → Prop} {t : Nat} {m : fm_M} {x3 : Int32} (ht : t < 512) (hi : Inv t m) (hv1 : vp_in (x3 + 1) L) (hv2 : vp_in (x3 + 2) L) (hk : ∀ m', Inv (t + 1) m' → fm_GL L xs fm_layW 11 m_L_law Post 1060 [some (.ref 4000), some (.ref 0), some (.ref 23), some (.int x3), none, none, none, none] [] m') : fm_GL L xs fm_layW 11 m_L_law Post 264 [some (.ref 4000), some (.ref 0), some (.ref 23), some (.int x3), none, none, none, none] [] m := by
  refine gl_aload_n (pc := 264) dL_law_264 rfl rfl ?_
  refine gl_aload_n (pc := 265) dL_law_265 rfl rfl ?_
  refine gl_iload_n (pc := 266) dL_law_266 rfl rfl ?_
  refine gl_iconst (pc := 267) (v := (1 : Int32)) dL_law_267 (by decide) ?_
  refine gl_iadd (pc := 268) dL_law_268 ?_
  refine gl_sld (pc := 269) dL_law_269 hv1 ?_
  refine gl_aload_n (pc := 270) dL_law_270 rfl rfl ?_
  refine gl_iload_n (pc := 271) dL_law_271 rfl rfl ?_
  refine gl_iconst (pc := 272) (v := (2 : Int32)) dL_law_272 (by decide) ?_
  refine gl_iadd (pc := 273) dL_law_273 ?_
  refine gl_sld (pc := 274) dL_law_274 hv2 ?_
  obtain ⟨r, m1, m2, h1, h2, hi2⟩ := ha t m ((xs (x3 + (1 : Int32)).toNatClampNeg)) ((xs (x3 + (2 : Int32)).toNatClampNeg)) ht hi
  refine gl_callVi (pc := 275) (As := [.int (xs (x3 + (1 : Int32)).toNatClampNeg), .int (xs (x3 + (2 : Int32)).toNatClampNeg)]) (st := []) dL_law_275 (c_X6_voice _ _ _ h1) (by decide) ce_X6_voice ml_L_23 in_X6_voice se_X6_voice cl_X6 rfl rfl (Nat.le_of_ble_eq_true rfl) rfl ?_
  refine gl_aload_n (pc := 278) dL_law_278 rfl rfl ?_
  refine gl_aload_n (pc := 279) dL_law_279 rfl rfl ?_
  refine gl_iload_n (pc := 280) dL_law_280 rfl rfl ?_
  refine gl_iconst (pc := 281) (v := (1 : Int32)) dL_law_281 (by decide) ?_
  refine gl_iadd (pc := 282) dL_law_282 ?_
  refine gl_sld (pc := 283) dL_law_283 hv1 ?_
  refine gl_aload_n (pc := 284) dL_law_284 rfl rfl ?_
  refine gl_iload_n (pc := 285) dL_law_285 rfl rfl ?_
  refine gl_iconst (pc := 286) (v := (2 : Int32)) dL_law_286 (by decide) ?_
  refine gl_iadd (pc := 287) dL_law_287 ?_
  refine gl_sld (pc := 288) dL_law_288 hv2 ?_
  refine gl_callVi (pc := 289) (As := [.int (xs (x3 + (1 : Int32)).toNatClampNeg), .int (xs (x3 + (2 : Int32)).toNatClampNeg)]) (st := [.int r]) dL_law_289 (c_X7_voice _ _ _ h2) (by decide) ce_X7_voice ml_L_27 in_X7_voice se_X7_voice cl_X7 rfl rfl (Nat.le_of_ble_eq_true rfl) rfl ?_
  refine gl_icmp_eq (pc := 292) (tgt := 1060) dL_law_292 (by decide) (fun _ => ?_) (fun c => absurd rfl c)
  exact hk _ hi2
set_option maxRecDepth 100000 in
set_option maxHeartbeats 4000000 in
theorem lc_3 {Inv : Nat → fm_M → Prop} (ha : ag_choose Inv) {L : Nat} {xs : Nat → Int32} {Post : Option Value → fm_M → Prop} {t : Nat} {m : fm_M} {x3 : Int32} (ht : t < 512) (hi : Inv t m) (hv1 : vp_in (x3 + 1) L) (hv2 : vp_in (x3 + 2) L) (hk : ∀ m', Inv (t + 1) m' → fm_GL L xs fm_layW 11 m_L_law Post 1060 [some (.ref 4000), some (.ref 0), some (.ref 23), some (.int x3), none, none, none, none] [] m') : fm_GL L xs fm_layW 11 m_L_law Post 297 [some (.ref 4000), some (.ref 0), some (.ref 23), some (.int x3), none, none, none, none] [] m := by
  refine gl_aload_n (pc := 297) dL_law_297 rfl rfl ?_
  refine gl_aload_n (pc := 298) dL_law_298 rfl rfl ?_
  refine gl_iload_n (pc := 299) dL_law_299 rfl rfl ?_
  refine gl_iconst (pc := 300) (v := (1 : Int32)) dL_law_300 (by decide) ?_
  refine gl_iadd (pc := 301) dL_law_301 ?_
  refine gl_sld (pc := 302) dL_law_302 hv1 ?_
  obtain ⟨r, m1, m2, h1, h2, hi2⟩ := ha t m ((xs (x3 + (1 : Int32)).toNatClampNeg)) ht hi
  refine gl_callVi (pc := 303) (As := [.int (xs (x3 + (1 : Int32)).toNatClampNeg)]) (st := []) dL_law_303 (c_X6_choose _ _ h1) (by decide) ce_X6_choose ml_L_28 in_X6_choose se_X6_choose cl_X6 rfl rfl (Nat.le_of_ble_eq_true rfl) rfl ?_
  refine gl_aload_n (pc := 306) dL_law_306 rfl rfl ?_
  refine gl_aload_n (pc := 307) dL_law_307 rfl rfl ?_
  refine gl_iload_n (pc := 308) dL_law_308 rfl rfl ?_
  refine gl_iconst (pc := 309) (v := (1 : Int32)) dL_law_309 (by decide) ?_
  refine gl_iadd (pc := 310) dL_law_310 ?_
  refine gl_sld (pc := 311) dL_law_311 hv1 ?_
  refine gl_callVi (pc := 312) (As := [.int (xs (x3 + (1 : Int32)).toNatClampNeg)]) (st := [.int r]) dL_law_312 (c_X7_choose _ _ h2) (by decide) ce_X7_choose ml_L_31 in_X7_choose se_X7_choose cl_X7 rfl rfl (Nat.le_of_ble_eq_true rfl) rfl ?_
  refine gl_icmp_eq (pc := 315) (tgt := 1060) dL_law_315 (by decide) (fun _ => ?_) (fun c => absurd rfl c)
  exact hk _ hi2
set_option maxRecDepth 100000 in
set_option maxHeartbeats 4000000 in
theorem lc_4 {Inv : Nat → fm_M → Prop} (ha : ag_leave Inv) {L : Nat} {xs : Nat → Int32} {Post : Option Value → fm_M → Prop} {t : Nat} {m : fm_M} {x3 : Int32} (ht : t < 512) (hi : Inv t m) (hv1 : vp_in (x3 + 1) L) (hv2 : vp_in (x3 + 2) L) (hk : ∀ m', Inv (t + 1) m' → fm_GL L xs fm_layW 11 m_L_law Post 1060 [some (.ref 4000), some (.ref 0), some (.ref 23), some (.int x3), none, none, none, none] [] m') : fm_GL L xs fm_layW 11 m_L_law Post 320 [some (.ref 4000), some (.ref 0), some (.ref 23), some (.int x3), none, none, none, none] [] m := by
  refine gl_aload_n (pc := 320) dL_law_320 rfl rfl ?_
  refine gl_aload_n (pc := 321) dL_law_321 rfl rfl ?_
  refine gl_iload_n (pc := 322) dL_law_322 rfl rfl ?_
  refine gl_iconst (pc := 323) (v := (1 : Int32)) dL_law_323 (by decide) ?_
  refine gl_iadd (pc := 324) dL_law_324 ?_
  refine gl_sld (pc := 325) dL_law_325 hv1 ?_
  obtain ⟨r, m1, m2, h1, h2, hi2⟩ := ha t m ((xs (x3 + (1 : Int32)).toNatClampNeg)) ht hi
  refine gl_callVi (pc := 326) (As := [.int (xs (x3 + (1 : Int32)).toNatClampNeg)]) (st := []) dL_law_326 (c_X6_leave _ _ h1) (by decide) ce_X6_leave ml_L_32 in_X6_leave se_X6_leave cl_X6 rfl rfl (Nat.le_of_ble_eq_true rfl) rfl ?_
  refine gl_aload_n (pc := 329) dL_law_329 rfl rfl ?_
  refine gl_aload_n (pc := 330) dL_law_330 rfl rfl ?_
  refine gl_iload_n (pc := 331) dL_law_331 rfl rfl ?_
  refine gl_iconst (pc := 332) (v := (1 : Int32)) dL_law_332 (by decide) ?_
  refine gl_iadd (pc := 333) dL_law_333 ?_
  refine gl_sld (pc := 334) dL_law_334 hv1 ?_
  refine gl_callVi (pc := 335) (As := [.int (xs (x3 + (1 : Int32)).toNatClampNeg)]) (st := [.int r]) dL_law_335 (c_X7_leave _ _ h2) (by decide) ce_X7_leave ml_L_35 in_X7_leave se_X7_leave cl_X7 rfl rfl (Nat.le_of_ble_eq_true rfl) rfl ?_
  refine gl_icmp_eq (pc := 338) (tgt := 1060) dL_law_338 (by decide) (fun _ => ?_) (fun c => absurd rfl c)
  exact hk _ hi2
set_option maxRecDepth 100000 in
set_option maxHeartbeats 4000000 in
theorem lc_5 {Inv : Nat → fm_M → Prop} (ha : ag_feast Inv) {L : Nat} {xs : Nat → Int32} {Post : Option Value → fm_M → Prop} {t : Nat} {m : fm_M} {x3 : Int32} (ht : t < 512) (hi : Inv t m) (hv1 : vp_in (x3 + 1) L) (hv2 : vp_in (x3 + 2) L) (hk : ∀ m', Inv (t + 1) m' → fm_GL L xs fm_layW 11 m_L_law Post 1060 [some (.ref 4000), some (.ref 0), some (.ref 23), some (.int x3), none, none, none, none] [] m') : fm_GL L xs fm_layW 11 m_L_law Post 343 [some (.ref 4000), some (.ref 0), some (.ref 23), some (.int x3), none, none, none, none] [] m := by
  refine gl_aload_n (pc := 343) dL_law_343 rfl rfl ?_
  refine gl_aload_n (pc := 344) dL_law_344 rfl rfl ?_
  refine gl_iload_n (pc := 345) dL_law_345 rfl rfl ?_
  refine gl_iconst (pc := 346) (v := (1 : Int32)) dL_law_346 (by decide) ?_
  refine gl_iadd (pc := 347) dL_law_347 ?_
  refine gl_sld (pc := 348) dL_law_348 hv1 ?_
  refine gl_aload_n (pc := 349) dL_law_349 rfl rfl ?_
  refine gl_iload_n (pc := 350) dL_law_350 rfl rfl ?_
  refine gl_iconst (pc := 351) (v := (2 : Int32)) dL_law_351 (by decide) ?_
  refine gl_iadd (pc := 352) dL_law_352 ?_
  refine gl_sld (pc := 353) dL_law_353 hv2 ?_
  obtain ⟨r, m1, m2, h1, h2, hi2⟩ := ha t m ((xs (x3 + (1 : Int32)).toNatClampNeg)) ((xs (x3 + (2 : Int32)).toNatClampNeg)) ht hi
  refine gl_callVi (pc := 354) (As := [.int (xs (x3 + (1 : Int32)).toNatClampNeg), .int (xs (x3 + (2 : Int32)).toNatClampNeg)]) (st := []) dL_law_354 (c_X6_feast _ _ _ h1) (by decide) ce_X6_feast ml_L_36 in_X6_feast se_X6_feast cl_X6 rfl rfl (Nat.le_of_ble_eq_true rfl) rfl ?_
  refine gl_aload_n (pc := 357) dL_law_357 rfl rfl ?_
  refine gl_aload_n (pc := 358) dL_law_358 rfl rfl ?_
  refine gl_iload_n (pc := 359) dL_law_359 rfl rfl ?_
  refine gl_iconst (pc := 360) (v := (1 : Int32)) dL_law_360 (by decide) ?_
  refine gl_iadd (pc := 361) dL_law_361 ?_
  refine gl_sld (pc := 362) dL_law_362 hv1 ?_
  refine gl_aload_n (pc := 363) dL_law_363 rfl rfl ?_
  refine gl_iload_n (pc := 364) dL_law_364 rfl rfl ?_
  refine gl_iconst (pc := 365) (v := (2 : Int32)) dL_law_365 (by decide) ?_
  refine gl_iadd (pc := 366) dL_law_366 ?_
  refine gl_sld (pc := 367) dL_law_367 hv2 ?_
  refine gl_callVi (pc := 368) (As := [.int (xs (x3 + (1 : Int32)).toNatClampNeg), .int (xs (x3 + (2 : Int32)).toNatClampNeg)]) (st := [.int r]) dL_law_368 (c_X7_feast _ _ _ h2) (by decide) ce_X7_feast ml_L_39 in_X7_feast se_X7_feast cl_X7 rfl rfl (Nat.le_of_ble_eq_true rfl) rfl ?_
  refine gl_icmp_eq (pc := 371) (tgt := 1060) dL_law_371 (by decide) (fun _ => ?_) (fun c => absurd rfl c)
  exact hk _ hi2
set_option maxRecDepth 100000 in
set_option maxHeartbeats 4000000 in
theorem lc_6 {Inv : Nat → fm_M → Prop} (ha : ag_breach Inv) {L : Nat} {xs : Nat → Int32} {Post : Option Value → fm_M → Prop} {t : Nat} {m : fm_M} {x3 : Int32} (ht : t < 512) (hi : Inv t m) (hv1 : vp_in (x3 + 1) L) (hv2 : vp_in (x3 + 2) L) (hk : ∀ m', Inv (t + 1) m' → fm_GL L xs fm_layW 11 m_L_law Post 1060 [some (.ref 4000), some (.ref 0), some (.ref 23), some (.int x3), none, none, none, none] [] m') : fm_GL L xs fm_layW 11 m_L_law Post 376 [some (.ref 4000), some (.ref 0), some (.ref 23), some (.int x3), none, none, none, none] [] m := by
  refine gl_aload_n (pc := 376) dL_law_376 rfl rfl ?_
  refine gl_aload_n (pc := 377) dL_law_377 rfl rfl ?_
  refine gl_iload_n (pc := 378) dL_law_378 rfl rfl ?_
  refine gl_iconst (pc := 379) (v := (1 : Int32)) dL_law_379 (by decide) ?_
  refine gl_iadd (pc := 380) dL_law_380 ?_
  refine gl_sld (pc := 381) dL_law_381 hv1 ?_
  refine gl_aload_n (pc := 382) dL_law_382 rfl rfl ?_
  refine gl_iload_n (pc := 383) dL_law_383 rfl rfl ?_
  refine gl_iconst (pc := 384) (v := (2 : Int32)) dL_law_384 (by decide) ?_
  refine gl_iadd (pc := 385) dL_law_385 ?_
  refine gl_sld (pc := 386) dL_law_386 hv2 ?_
  obtain ⟨r, m1, m2, h1, h2, hi2⟩ := ha t m ((xs (x3 + (1 : Int32)).toNatClampNeg)) ((xs (x3 + (2 : Int32)).toNatClampNeg)) ht hi
  refine gl_callVi (pc := 387) (As := [.int (xs (x3 + (1 : Int32)).toNatClampNeg), .int (xs (x3 + (2 : Int32)).toNatClampNeg)]) (st := []) dL_law_387 (c_X6_breach _ _ _ h1) (by decide) ce_X6_breach ml_L_40 in_X6_breach se_X6_breach cl_X6 rfl rfl (Nat.le_of_ble_eq_true rfl) rfl ?_
  refine gl_aload_n (pc := 390) dL_law_390 rfl rfl ?_
  refine gl_aload_n (pc := 391) dL_law_391 rfl rfl ?_
  refine gl_iload_n (pc := 392) dL_law_392 rfl rfl ?_
  refine gl_iconst (pc := 393) (v := (1 : Int32)) dL_law_393 (by decide) ?_
  refine gl_iadd (pc := 394) dL_law_394 ?_
  refine gl_sld (pc := 395) dL_law_395 hv1 ?_
  refine gl_aload_n (pc := 396) dL_law_396 rfl rfl ?_
  refine gl_iload_n (pc := 397) dL_law_397 rfl rfl ?_
  refine gl_iconst (pc := 398) (v := (2 : Int32)) dL_law_398 (by decide) ?_
  refine gl_iadd (pc := 399) dL_law_399 ?_
  refine gl_sld (pc := 400) dL_law_400 hv2 ?_
  refine gl_callVi (pc := 401) (As := [.int (xs (x3 + (1 : Int32)).toNatClampNeg), .int (xs (x3 + (2 : Int32)).toNatClampNeg)]) (st := [.int r]) dL_law_401 (c_X7_breach _ _ _ h2) (by decide) ce_X7_breach ml_L_43 in_X7_breach se_X7_breach cl_X7 rfl rfl (Nat.le_of_ble_eq_true rfl) rfl ?_
  refine gl_icmp_eq (pc := 404) (tgt := 1060) dL_law_404 (by decide) (fun _ => ?_) (fun c => absurd rfl c)
  exact hk _ hi2
set_option maxRecDepth 100000 in
set_option maxHeartbeats 4000000 in
theorem lc_7 {Inv : Nat → fm_M → Prop} (ha : ag_pardon Inv) {L : Nat} {xs : Nat → Int32} {Post : Option Value → fm_M → Prop} {t : Nat} {m : fm_M} {x3 : Int32} (ht : t < 512) (hi : Inv t m) (hv1 : vp_in (x3 + 1) L) (hv2 : vp_in (x3 + 2) L) (hk : ∀ m', Inv (t + 1) m' → fm_GL L xs fm_layW 11 m_L_law Post 1060 [some (.ref 4000), some (.ref 0), some (.ref 23), some (.int x3), none, none, none, none] [] m') : fm_GL L xs fm_layW 11 m_L_law Post 409 [some (.ref 4000), some (.ref 0), some (.ref 23), some (.int x3), none, none, none, none] [] m := by
  refine gl_aload_n (pc := 409) dL_law_409 rfl rfl ?_
  refine gl_aload_n (pc := 410) dL_law_410 rfl rfl ?_
  refine gl_iload_n (pc := 411) dL_law_411 rfl rfl ?_
  refine gl_iconst (pc := 412) (v := (1 : Int32)) dL_law_412 (by decide) ?_
  refine gl_iadd (pc := 413) dL_law_413 ?_
  refine gl_sld (pc := 414) dL_law_414 hv1 ?_
  obtain ⟨r, m1, m2, h1, h2, hi2⟩ := ha t m ((xs (x3 + (1 : Int32)).toNatClampNeg)) ht hi
  refine gl_callVi (pc := 415) (As := [.int (xs (x3 + (1 : Int32)).toNatClampNeg)]) (st := []) dL_law_415 (c_X6_pardon _ _ h1) (by decide) ce_X6_pardon ml_L_44 in_X6_pardon se_X6_pardon cl_X6 rfl rfl (Nat.le_of_ble_eq_true rfl) rfl ?_
  refine gl_aload_n (pc := 418) dL_law_418 rfl rfl ?_
  refine gl_aload_n (pc := 419) dL_law_419 rfl rfl ?_
  refine gl_iload_n (pc := 420) dL_law_420 rfl rfl ?_
  refine gl_iconst (pc := 421) (v := (1 : Int32)) dL_law_421 (by decide) ?_
  refine gl_iadd (pc := 422) dL_law_422 ?_
  refine gl_sld (pc := 423) dL_law_423 hv1 ?_
  refine gl_callVi (pc := 424) (As := [.int (xs (x3 + (1 : Int32)).toNatClampNeg)]) (st := [.int r]) dL_law_424 (c_X7_pardon _ _ h2) (by decide) ce_X7_pardon ml_L_47 in_X7_pardon se_X7_pardon cl_X7 rfl rfl (Nat.le_of_ble_eq_true rfl) rfl ?_
  refine gl_icmp_eq (pc := 427) (tgt := 1060) dL_law_427 (by decide) (fun _ => ?_) (fun c => absurd rfl c)
  exact hk _ hi2
set_option maxRecDepth 100000 in
set_option maxHeartbeats 4000000 in
theorem lc_8 {Inv : Nat → fm_M → Prop} (ha : ag_gift Inv) {L : Nat} {xs : Nat → Int32} {Post : Option Value → fm_M → Prop} {t : Nat} {m : fm_M} {x3 : Int32} (ht : t < 512) (hi : Inv t m) (hv1 : vp_in (x3 + 1) L) (hv2 : vp_in (x3 + 2) L) (hk : ∀ m', Inv (t + 1) m' → fm_GL L xs fm_layW 11 m_L_law Post 1060 [some (.ref 4000), some (.ref 0), some (.ref 23), some (.int x3), none, none, none, none] [] m') : fm_GL L xs fm_layW 11 m_L_law Post 432 [some (.ref 4000), some (.ref 0), some (.ref 23), some (.int x3), none, none, none, none] [] m := by
  refine gl_aload_n (pc := 432) dL_law_432 rfl rfl ?_
  refine gl_aload_n (pc := 433) dL_law_433 rfl rfl ?_
  refine gl_iload_n (pc := 434) dL_law_434 rfl rfl ?_
  refine gl_iconst (pc := 435) (v := (1 : Int32)) dL_law_435 (by decide) ?_
  refine gl_iadd (pc := 436) dL_law_436 ?_
  refine gl_sld (pc := 437) dL_law_437 hv1 ?_
  obtain ⟨r, m1, m2, h1, h2, hi2⟩ := ha t m ((xs (x3 + (1 : Int32)).toNatClampNeg)) ht hi
  refine gl_callVi (pc := 438) (As := [.int (xs (x3 + (1 : Int32)).toNatClampNeg)]) (st := []) dL_law_438 (c_X6_gift _ _ h1) (by decide) ce_X6_gift ml_L_48 in_X6_gift se_X6_gift cl_X6 rfl rfl (Nat.le_of_ble_eq_true rfl) rfl ?_
  refine gl_aload_n (pc := 441) dL_law_441 rfl rfl ?_
  refine gl_aload_n (pc := 442) dL_law_442 rfl rfl ?_
  refine gl_iload_n (pc := 443) dL_law_443 rfl rfl ?_
  refine gl_iconst (pc := 444) (v := (1 : Int32)) dL_law_444 (by decide) ?_
  refine gl_iadd (pc := 445) dL_law_445 ?_
  refine gl_sld (pc := 446) dL_law_446 hv1 ?_
  refine gl_callVi (pc := 447) (As := [.int (xs (x3 + (1 : Int32)).toNatClampNeg)]) (st := [.int r]) dL_law_447 (c_X7_gift _ _ h2) (by decide) ce_X7_gift ml_L_51 in_X7_gift se_X7_gift cl_X7 rfl rfl (Nat.le_of_ble_eq_true rfl) rfl ?_
  refine gl_icmp_eq (pc := 450) (tgt := 1060) dL_law_450 (by decide) (fun _ => ?_) (fun c => absurd rfl c)
  exact hk _ hi2
set_option maxRecDepth 100000 in
set_option maxHeartbeats 4000000 in
theorem lc_9 {Inv : Nat → fm_M → Prop} (ha : ag_weeks Inv) {L : Nat} {xs : Nat → Int32} {Post : Option Value → fm_M → Prop} {t : Nat} {m : fm_M} {x3 : Int32} (ht : t < 512) (hi : Inv t m) (hv1 : vp_in (x3 + 1) L) (hv2 : vp_in (x3 + 2) L) (hk : ∀ m', Inv (t + 1) m' → fm_GL L xs fm_layW 11 m_L_law Post 1060 [some (.ref 4000), some (.ref 0), some (.ref 23), some (.int x3), none, none, none, none] [] m') : fm_GL L xs fm_layW 11 m_L_law Post 455 [some (.ref 4000), some (.ref 0), some (.ref 23), some (.int x3), none, none, none, none] [] m := by
  refine gl_aload_n (pc := 455) dL_law_455 rfl rfl ?_
  refine gl_aload_n (pc := 456) dL_law_456 rfl rfl ?_
  refine gl_iload_n (pc := 457) dL_law_457 rfl rfl ?_
  refine gl_iconst (pc := 458) (v := (1 : Int32)) dL_law_458 (by decide) ?_
  refine gl_iadd (pc := 459) dL_law_459 ?_
  refine gl_sld (pc := 460) dL_law_460 hv1 ?_
  obtain ⟨r, m1, m2, h1, h2, hi2⟩ := ha t m ((xs (x3 + (1 : Int32)).toNatClampNeg)) ht hi
  refine gl_callVi (pc := 461) (As := [.int (xs (x3 + (1 : Int32)).toNatClampNeg)]) (st := []) dL_law_461 (c_X6_weeks _ _ h1) (by decide) ce_X6_weeks ml_L_52 in_X6_weeks se_X6_weeks cl_X6 rfl rfl (Nat.le_of_ble_eq_true rfl) rfl ?_
  refine gl_aload_n (pc := 464) dL_law_464 rfl rfl ?_
  refine gl_aload_n (pc := 465) dL_law_465 rfl rfl ?_
  refine gl_iload_n (pc := 466) dL_law_466 rfl rfl ?_
  refine gl_iconst (pc := 467) (v := (1 : Int32)) dL_law_467 (by decide) ?_
  refine gl_iadd (pc := 468) dL_law_468 ?_
  refine gl_sld (pc := 469) dL_law_469 hv1 ?_
  refine gl_callVi (pc := 470) (As := [.int (xs (x3 + (1 : Int32)).toNatClampNeg)]) (st := [.int r]) dL_law_470 (c_X7_weeks _ _ h2) (by decide) ce_X7_weeks ml_L_55 in_X7_weeks se_X7_weeks cl_X7 rfl rfl (Nat.le_of_ble_eq_true rfl) rfl ?_
  refine gl_icmp_eq (pc := 473) (tgt := 1060) dL_law_473 (by decide) (fun _ => ?_) (fun c => absurd rfl c)
  exact hk _ hi2
set_option maxRecDepth 100000 in
set_option maxHeartbeats 4000000 in
theorem lc_10 {Inv : Nat → fm_M → Prop} (ha : ag_brotherOf Inv) {L : Nat} {xs : Nat → Int32} {Post : Option Value → fm_M → Prop} {t : Nat} {m : fm_M} {x3 : Int32} (ht : t < 512) (hi : Inv t m) (hv1 : vp_in (x3 + 1) L) (hv2 : vp_in (x3 + 2) L) (hk : ∀ m', Inv (t + 1) m' → fm_GL L xs fm_layW 11 m_L_law Post 1060 [some (.ref 4000), some (.ref 0), some (.ref 23), some (.int x3), none, none, none, none] [] m') : fm_GL L xs fm_layW 11 m_L_law Post 478 [some (.ref 4000), some (.ref 0), some (.ref 23), some (.int x3), none, none, none, none] [] m := by
  refine gl_aload_n (pc := 478) dL_law_478 rfl rfl ?_
  refine gl_aload_n (pc := 479) dL_law_479 rfl rfl ?_
  refine gl_iload_n (pc := 480) dL_law_480 rfl rfl ?_
  refine gl_iconst (pc := 481) (v := (1 : Int32)) dL_law_481 (by decide) ?_
  refine gl_iadd (pc := 482) dL_law_482 ?_
  refine gl_sld (pc := 483) dL_law_483 hv1 ?_
  refine gl_aload_n (pc := 484) dL_law_484 rfl rfl ?_
  refine gl_iload_n (pc := 485) dL_law_485 rfl rfl ?_
  refine gl_iconst (pc := 486) (v := (2 : Int32)) dL_law_486 (by decide) ?_
  refine gl_iadd (pc := 487) dL_law_487 ?_
  refine gl_sld (pc := 488) dL_law_488 hv2 ?_
  obtain ⟨r, h1, h2, hi2⟩ := ha t m ((xs (x3 + (1 : Int32)).toNatClampNeg)) ((xs (x3 + (2 : Int32)).toNatClampNeg)) ht hi
  refine gl_callVi (pc := 489) (As := [.int (xs (x3 + (1 : Int32)).toNatClampNeg), .int (xs (x3 + (2 : Int32)).toNatClampNeg)]) (st := []) dL_law_489 (c_X6_brotherOf _ _ _ h1) (by decide) ce_X6_brotherOf ml_L_56 in_X6_brotherOf se_X6_brotherOf cl_X6 rfl rfl (Nat.le_of_ble_eq_true rfl) rfl ?_
  refine gl_aload_n (pc := 492) dL_law_492 rfl rfl ?_
  refine gl_aload_n (pc := 493) dL_law_493 rfl rfl ?_
  refine gl_iload_n (pc := 494) dL_law_494 rfl rfl ?_
  refine gl_iconst (pc := 495) (v := (1 : Int32)) dL_law_495 (by decide) ?_
  refine gl_iadd (pc := 496) dL_law_496 ?_
  refine gl_sld (pc := 497) dL_law_497 hv1 ?_
  refine gl_aload_n (pc := 498) dL_law_498 rfl rfl ?_
  refine gl_iload_n (pc := 499) dL_law_499 rfl rfl ?_
  refine gl_iconst (pc := 500) (v := (2 : Int32)) dL_law_500 (by decide) ?_
  refine gl_iadd (pc := 501) dL_law_501 ?_
  refine gl_sld (pc := 502) dL_law_502 hv2 ?_
  refine gl_callVi (pc := 503) (As := [.int (xs (x3 + (1 : Int32)).toNatClampNeg), .int (xs (x3 + (2 : Int32)).toNatClampNeg)]) (st := [.int r]) dL_law_503 (c_X7_brotherOf _ _ _ h2) (by decide) ce_X7_brotherOf ml_L_59 in_X7_brotherOf se_X7_brotherOf cl_X7 rfl rfl (Nat.le_of_ble_eq_true rfl) rfl ?_
  refine gl_icmp_eq (pc := 506) (tgt := 1060) dL_law_506 (by decide) (fun _ => ?_) (fun c => absurd rfl c)
  exact hk _ hi2
set_option maxRecDepth 100000 in
set_option maxHeartbeats 4000000 in
theorem lc_11 {Inv : Nat → fm_M → Prop} (ha : ag_broke Inv) {L : Nat} {xs : Nat → Int32} {Post : Option Value → fm_M → Prop} {t : Nat} {m : fm_M} {x3 : Int32} (ht : t < 512) (hi : Inv t m) (hv1 : vp_in (x3 + 1) L) (hv2 : vp_in (x3 + 2) L) (hk : ∀ m', Inv (t + 1) m' → fm_GL L xs fm_layW 11 m_L_law Post 1060 [some (.ref 4000), some (.ref 0), some (.ref 23), some (.int x3), none, none, none, none] [] m') : fm_GL L xs fm_layW 11 m_L_law Post 511 [some (.ref 4000), some (.ref 0), some (.ref 23), some (.int x3), none, none, none, none] [] m := by
  refine gl_aload_n (pc := 511) dL_law_511 rfl rfl ?_
  refine gl_aload_n (pc := 512) dL_law_512 rfl rfl ?_
  refine gl_iload_n (pc := 513) dL_law_513 rfl rfl ?_
  refine gl_iconst (pc := 514) (v := (1 : Int32)) dL_law_514 (by decide) ?_
  refine gl_iadd (pc := 515) dL_law_515 ?_
  refine gl_sld (pc := 516) dL_law_516 hv1 ?_
  refine gl_aload_n (pc := 517) dL_law_517 rfl rfl ?_
  refine gl_iload_n (pc := 518) dL_law_518 rfl rfl ?_
  refine gl_iconst (pc := 519) (v := (2 : Int32)) dL_law_519 (by decide) ?_
  refine gl_iadd (pc := 520) dL_law_520 ?_
  refine gl_sld (pc := 521) dL_law_521 hv2 ?_
  obtain ⟨r, h1, h2, hi2⟩ := ha t m ((xs (x3 + (1 : Int32)).toNatClampNeg)) ((xs (x3 + (2 : Int32)).toNatClampNeg)) ht hi
  refine gl_callVi (pc := 522) (As := [.int (xs (x3 + (1 : Int32)).toNatClampNeg), .int (xs (x3 + (2 : Int32)).toNatClampNeg)]) (st := []) dL_law_522 (c_X6_broke _ _ _ h1) (by decide) ce_X6_broke ml_L_60 in_X6_broke se_X6_broke cl_X6 rfl rfl (Nat.le_of_ble_eq_true rfl) rfl ?_
  refine gl_aload_n (pc := 525) dL_law_525 rfl rfl ?_
  refine gl_aload_n (pc := 526) dL_law_526 rfl rfl ?_
  refine gl_iload_n (pc := 527) dL_law_527 rfl rfl ?_
  refine gl_iconst (pc := 528) (v := (1 : Int32)) dL_law_528 (by decide) ?_
  refine gl_iadd (pc := 529) dL_law_529 ?_
  refine gl_sld (pc := 530) dL_law_530 hv1 ?_
  refine gl_aload_n (pc := 531) dL_law_531 rfl rfl ?_
  refine gl_iload_n (pc := 532) dL_law_532 rfl rfl ?_
  refine gl_iconst (pc := 533) (v := (2 : Int32)) dL_law_533 (by decide) ?_
  refine gl_iadd (pc := 534) dL_law_534 ?_
  refine gl_sld (pc := 535) dL_law_535 hv2 ?_
  refine gl_callVi (pc := 536) (As := [.int (xs (x3 + (1 : Int32)).toNatClampNeg), .int (xs (x3 + (2 : Int32)).toNatClampNeg)]) (st := [.int r]) dL_law_536 (c_X7_broke _ _ _ h2) (by decide) ce_X7_broke ml_L_63 in_X7_broke se_X7_broke cl_X7 rfl rfl (Nat.le_of_ble_eq_true rfl) rfl ?_
  refine gl_icmp_eq (pc := 539) (tgt := 1060) dL_law_539 (by decide) (fun _ => ?_) (fun c => absurd rfl c)
  exact hk _ hi2
set_option maxRecDepth 100000 in
set_option maxHeartbeats 4000000 in
theorem lc_12 {Inv : Nat → fm_M → Prop} (ha : ag_inCell Inv) {L : Nat} {xs : Nat → Int32} {Post : Option Value → fm_M → Prop} {t : Nat} {m : fm_M} {x3 : Int32} (ht : t < 512) (hi : Inv t m) (hv1 : vp_in (x3 + 1) L) (hv2 : vp_in (x3 + 2) L) (hk : ∀ m', Inv (t + 1) m' → fm_GL L xs fm_layW 11 m_L_law Post 1060 [some (.ref 4000), some (.ref 0), some (.ref 23), some (.int x3), none, none, none, none] [] m') : fm_GL L xs fm_layW 11 m_L_law Post 544 [some (.ref 4000), some (.ref 0), some (.ref 23), some (.int x3), none, none, none, none] [] m := by
  refine gl_aload_n (pc := 544) dL_law_544 rfl rfl ?_
  refine gl_aload_n (pc := 545) dL_law_545 rfl rfl ?_
  refine gl_iload_n (pc := 546) dL_law_546 rfl rfl ?_
  refine gl_iconst (pc := 547) (v := (1 : Int32)) dL_law_547 (by decide) ?_
  refine gl_iadd (pc := 548) dL_law_548 ?_
  refine gl_sld (pc := 549) dL_law_549 hv1 ?_
  obtain ⟨r, h1, h2, hi2⟩ := ha t m ((xs (x3 + (1 : Int32)).toNatClampNeg)) ht hi
  refine gl_callVi (pc := 550) (As := [.int (xs (x3 + (1 : Int32)).toNatClampNeg)]) (st := []) dL_law_550 (c_X6_inCell _ _ h1) (by decide) ce_X6_inCell ml_L_64 in_X6_inCell se_X6_inCell cl_X6 rfl rfl (Nat.le_of_ble_eq_true rfl) rfl ?_
  refine gl_aload_n (pc := 553) dL_law_553 rfl rfl ?_
  refine gl_aload_n (pc := 554) dL_law_554 rfl rfl ?_
  refine gl_iload_n (pc := 555) dL_law_555 rfl rfl ?_
  refine gl_iconst (pc := 556) (v := (1 : Int32)) dL_law_556 (by decide) ?_
  refine gl_iadd (pc := 557) dL_law_557 ?_
  refine gl_sld (pc := 558) dL_law_558 hv1 ?_
  refine gl_callVi (pc := 559) (As := [.int (xs (x3 + (1 : Int32)).toNatClampNeg)]) (st := [.int r]) dL_law_559 (c_X7_inCell _ _ h2) (by decide) ce_X7_inCell ml_L_67 in_X7_inCell se_X7_inCell cl_X7 rfl rfl (Nat.le_of_ble_eq_true rfl) rfl ?_
  refine gl_icmp_eq (pc := 562) (tgt := 1060) dL_law_562 (by decide) (fun _ => ?_) (fun c => absurd rfl c)
  exact hk _ hi2
set_option maxRecDepth 100000 in
set_option maxHeartbeats 4000000 in
theorem lc_13 {Inv : Nat → fm_M → Prop} (ha : ag_entitled Inv) {L : Nat} {xs : Nat → Int32} {Post : Option Value → fm_M → Prop} {t : Nat} {m : fm_M} {x3 : Int32} (ht : t < 512) (hi : Inv t m) (hv1 : vp_in (x3 + 1) L) (hv2 : vp_in (x3 + 2) L) (hk : ∀ m', Inv (t + 1) m' → fm_GL L xs fm_layW 11 m_L_law Post 1060 [some (.ref 4000), some (.ref 0), some (.ref 23), some (.int x3), none, none, none, none] [] m') : fm_GL L xs fm_layW 11 m_L_law Post 567 [some (.ref 4000), some (.ref 0), some (.ref 23), some (.int x3), none, none, none, none] [] m := by
  refine gl_aload_n (pc := 567) dL_law_567 rfl rfl ?_
  obtain ⟨r, h1, h2, hi2⟩ := ha t m  ht hi
  refine gl_callVi (pc := 568) (As := []) (st := []) dL_law_568 (c_X6_entitled _ h1) (by decide) ce_X6_entitled ml_L_68 in_X6_entitled se_X6_entitled cl_X6 rfl rfl (Nat.le_of_ble_eq_true rfl) rfl ?_
  refine gl_aload_n (pc := 571) dL_law_571 rfl rfl ?_
  refine gl_callVi (pc := 572) (As := []) (st := [.int r]) dL_law_572 (c_X7_entitled _ h2) (by decide) ce_X7_entitled ml_L_72 in_X7_entitled se_X7_entitled cl_X7 rfl rfl (Nat.le_of_ble_eq_true rfl) rfl ?_
  refine gl_icmp_eq (pc := 575) (tgt := 1060) dL_law_575 (by decide) (fun _ => ?_) (fun c => absurd rfl c)
  exact hk _ hi2
set_option maxRecDepth 100000 in
set_option maxHeartbeats 4000000 in
theorem lc_14 {Inv : Nat → fm_M → Prop} (ha : ag_entitledAgain Inv) {L : Nat} {xs : Nat → Int32} {Post : Option Value → fm_M → Prop} {t : Nat} {m : fm_M} {x3 : Int32} (ht : t < 512) (hi : Inv t m) (hv1 : vp_in (x3 + 1) L) (hv2 : vp_in (x3 + 2) L) (hk : ∀ m', Inv (t + 1) m' → fm_GL L xs fm_layW 11 m_L_law Post 1060 [some (.ref 4000), some (.ref 0), some (.ref 23), some (.int x3), none, none, none, none] [] m') : fm_GL L xs fm_layW 11 m_L_law Post 580 [some (.ref 4000), some (.ref 0), some (.ref 23), some (.int x3), none, none, none, none] [] m := by
  refine gl_aload_n (pc := 580) dL_law_580 rfl rfl ?_
  obtain ⟨r, h1, h2, hi2⟩ := ha t m  ht hi
  refine gl_callVi (pc := 581) (As := []) (st := []) dL_law_581 (c_X6_entitledAgain _ h1) (by decide) ce_X6_entitledAgain ml_L_73 in_X6_entitledAgain se_X6_entitledAgain cl_X6 rfl rfl (Nat.le_of_ble_eq_true rfl) rfl ?_
  refine gl_aload_n (pc := 584) dL_law_584 rfl rfl ?_
  refine gl_callVi (pc := 585) (As := []) (st := [.int r]) dL_law_585 (c_X7_entitledAgain _ h2) (by decide) ce_X7_entitledAgain ml_L_76 in_X7_entitledAgain se_X7_entitledAgain cl_X7 rfl rfl (Nat.le_of_ble_eq_true rfl) rfl ?_
  refine gl_icmp_eq (pc := 588) (tgt := 1060) dL_law_588 (by decide) (fun _ => ?_) (fun c => absurd rfl c)
  exact hk _ hi2
set_option maxRecDepth 100000 in
set_option maxHeartbeats 4000000 in
theorem lc_15 {Inv : Nat → fm_M → Prop} (ha : ag_voices Inv) {L : Nat} {xs : Nat → Int32} {Post : Option Value → fm_M → Prop} {t : Nat} {m : fm_M} {x3 : Int32} (ht : t < 512) (hi : Inv t m) (hv1 : vp_in (x3 + 1) L) (hv2 : vp_in (x3 + 2) L) (hk : ∀ m', Inv (t + 1) m' → fm_GL L xs fm_layW 11 m_L_law Post 1060 [some (.ref 4000), some (.ref 0), some (.ref 23), some (.int x3), none, none, none, none] [] m') : fm_GL L xs fm_layW 11 m_L_law Post 593 [some (.ref 4000), some (.ref 0), some (.ref 23), some (.int x3), none, none, none, none] [] m := by
  refine gl_aload_n (pc := 593) dL_law_593 rfl rfl ?_
  refine gl_aload_n (pc := 594) dL_law_594 rfl rfl ?_
  refine gl_iload_n (pc := 595) dL_law_595 rfl rfl ?_
  refine gl_iconst (pc := 596) (v := (1 : Int32)) dL_law_596 (by decide) ?_
  refine gl_iadd (pc := 597) dL_law_597 ?_
  refine gl_sld (pc := 598) dL_law_598 hv1 ?_
  obtain ⟨r, h1, h2, hi2⟩ := ha t m ((xs (x3 + (1 : Int32)).toNatClampNeg)) ht hi
  refine gl_callVi (pc := 599) (As := [.int (xs (x3 + (1 : Int32)).toNatClampNeg)]) (st := []) dL_law_599 (c_X6_voices _ _ h1) (by decide) ce_X6_voices ml_L_77 in_X6_voices se_X6_voices cl_X6 rfl rfl (Nat.le_of_ble_eq_true rfl) rfl ?_
  refine gl_aload_n (pc := 602) dL_law_602 rfl rfl ?_
  refine gl_aload_n (pc := 603) dL_law_603 rfl rfl ?_
  refine gl_iload_n (pc := 604) dL_law_604 rfl rfl ?_
  refine gl_iconst (pc := 605) (v := (1 : Int32)) dL_law_605 (by decide) ?_
  refine gl_iadd (pc := 606) dL_law_606 ?_
  refine gl_sld (pc := 607) dL_law_607 hv1 ?_
  refine gl_callVi (pc := 608) (As := [.int (xs (x3 + (1 : Int32)).toNatClampNeg)]) (st := [.int r]) dL_law_608 (c_X7_voices _ _ h2) (by decide) ce_X7_voices ml_L_80 in_X7_voices se_X7_voices cl_X7 rfl rfl (Nat.le_of_ble_eq_true rfl) rfl ?_
  refine gl_icmp_eq (pc := 611) (tgt := 1060) dL_law_611 (by decide) (fun _ => ?_) (fun c => absurd rfl c)
  exact hk _ hi2
set_option maxRecDepth 100000 in
set_option maxHeartbeats 4000000 in
theorem lc_16 {Inv : Nat → fm_M → Prop} (ha : ag_voicesAgain Inv) {L : Nat} {xs : Nat → Int32} {Post : Option Value → fm_M → Prop} {t : Nat} {m : fm_M} {x3 : Int32} (ht : t < 512) (hi : Inv t m) (hv1 : vp_in (x3 + 1) L) (hv2 : vp_in (x3 + 2) L) (hk : ∀ m', Inv (t + 1) m' → fm_GL L xs fm_layW 11 m_L_law Post 1060 [some (.ref 4000), some (.ref 0), some (.ref 23), some (.int x3), none, none, none, none] [] m') : fm_GL L xs fm_layW 11 m_L_law Post 616 [some (.ref 4000), some (.ref 0), some (.ref 23), some (.int x3), none, none, none, none] [] m := by
  refine gl_aload_n (pc := 616) dL_law_616 rfl rfl ?_
  refine gl_aload_n (pc := 617) dL_law_617 rfl rfl ?_
  refine gl_iload_n (pc := 618) dL_law_618 rfl rfl ?_
  refine gl_iconst (pc := 619) (v := (1 : Int32)) dL_law_619 (by decide) ?_
  refine gl_iadd (pc := 620) dL_law_620 ?_
  refine gl_sld (pc := 621) dL_law_621 hv1 ?_
  obtain ⟨r, m1, m2, h1, h2, hi2⟩ := ha t m ((xs (x3 + (1 : Int32)).toNatClampNeg)) ht hi
  refine gl_callVi (pc := 622) (As := [.int (xs (x3 + (1 : Int32)).toNatClampNeg)]) (st := []) dL_law_622 (c_X6_voicesAgain _ _ h1) (by decide) ce_X6_voicesAgain ml_L_81 in_X6_voicesAgain se_X6_voicesAgain cl_X6 rfl rfl (Nat.le_of_ble_eq_true rfl) rfl ?_
  refine gl_aload_n (pc := 625) dL_law_625 rfl rfl ?_
  refine gl_aload_n (pc := 626) dL_law_626 rfl rfl ?_
  refine gl_iload_n (pc := 627) dL_law_627 rfl rfl ?_
  refine gl_iconst (pc := 628) (v := (1 : Int32)) dL_law_628 (by decide) ?_
  refine gl_iadd (pc := 629) dL_law_629 ?_
  refine gl_sld (pc := 630) dL_law_630 hv1 ?_
  refine gl_callVi (pc := 631) (As := [.int (xs (x3 + (1 : Int32)).toNatClampNeg)]) (st := [.int r]) dL_law_631 (c_X7_voicesAgain _ _ h2) (by decide) ce_X7_voicesAgain ml_L_84 in_X7_voicesAgain se_X7_voicesAgain cl_X7 rfl rfl (Nat.le_of_ble_eq_true rfl) rfl ?_
  refine gl_icmp_eq (pc := 634) (tgt := 1060) dL_law_634 (by decide) (fun _ => ?_) (fun c => absurd rfl c)
  exact hk _ hi2
set_option maxRecDepth 100000 in
set_option maxHeartbeats 4000000 in
theorem lc_17 {Inv : Nat → fm_M → Prop} (ha : ag_ranked Inv) {L : Nat} {xs : Nat → Int32} {Post : Option Value → fm_M → Prop} {t : Nat} {m : fm_M} {x3 : Int32} (ht : t < 512) (hi : Inv t m) (hv1 : vp_in (x3 + 1) L) (hv2 : vp_in (x3 + 2) L) (hk : ∀ m', Inv (t + 1) m' → fm_GL L xs fm_layW 11 m_L_law Post 1060 [some (.ref 4000), some (.ref 0), some (.ref 23), some (.int x3), none, none, none, none] [] m') : fm_GL L xs fm_layW 11 m_L_law Post 639 [some (.ref 4000), some (.ref 0), some (.ref 23), some (.int x3), none, none, none, none] [] m := by
  refine gl_aload_n (pc := 639) dL_law_639 rfl rfl ?_
  refine gl_aload_n (pc := 640) dL_law_640 rfl rfl ?_
  refine gl_iload_n (pc := 641) dL_law_641 rfl rfl ?_
  refine gl_iconst (pc := 642) (v := (1 : Int32)) dL_law_642 (by decide) ?_
  refine gl_iadd (pc := 643) dL_law_643 ?_
  refine gl_sld (pc := 644) dL_law_644 hv1 ?_
  obtain ⟨r, m1, h1, h2, hi2⟩ := ha t m ((xs (x3 + (1 : Int32)).toNatClampNeg)) ht hi
  refine gl_callVi (pc := 645) (As := [.int (xs (x3 + (1 : Int32)).toNatClampNeg)]) (st := []) dL_law_645 (c_X6_ranked _ _ h1) (by decide) ce_X6_ranked ml_L_85 in_X6_ranked se_X6_ranked cl_X6 rfl rfl (Nat.le_of_ble_eq_true rfl) rfl ?_
  refine gl_aload_n (pc := 648) dL_law_648 rfl rfl ?_
  refine gl_aload_n (pc := 649) dL_law_649 rfl rfl ?_
  refine gl_iload_n (pc := 650) dL_law_650 rfl rfl ?_
  refine gl_iconst (pc := 651) (v := (1 : Int32)) dL_law_651 (by decide) ?_
  refine gl_iadd (pc := 652) dL_law_652 ?_
  refine gl_sld (pc := 653) dL_law_653 hv1 ?_
  refine gl_callVi (pc := 654) (As := [.int (xs (x3 + (1 : Int32)).toNatClampNeg)]) (st := [.int r]) dL_law_654 (c_X7_ranked _ _ h2) (by decide) ce_X7_ranked ml_L_88 in_X7_ranked se_X7_ranked cl_X7 rfl rfl (Nat.le_of_ble_eq_true rfl) rfl ?_
  refine gl_icmp_eq (pc := 657) (tgt := 1060) dL_law_657 (by decide) (fun _ => ?_) (fun c => absurd rfl c)
  exact hk _ hi2
set_option maxRecDepth 100000 in
set_option maxHeartbeats 4000000 in
theorem lc_18 {Inv : Nat → fm_M → Prop} (ha : ag_senior Inv) {L : Nat} {xs : Nat → Int32} {Post : Option Value → fm_M → Prop} {t : Nat} {m : fm_M} {x3 : Int32} (ht : t < 512) (hi : Inv t m) (hv1 : vp_in (x3 + 1) L) (hv2 : vp_in (x3 + 2) L) (hk : ∀ m', Inv (t + 1) m' → fm_GL L xs fm_layW 11 m_L_law Post 1060 [some (.ref 4000), some (.ref 0), some (.ref 23), some (.int x3), none, none, none, none] [] m') : fm_GL L xs fm_layW 11 m_L_law Post 662 [some (.ref 4000), some (.ref 0), some (.ref 23), some (.int x3), none, none, none, none] [] m := by
  refine gl_aload_n (pc := 662) dL_law_662 rfl rfl ?_
  refine gl_aload_n (pc := 663) dL_law_663 rfl rfl ?_
  refine gl_iload_n (pc := 664) dL_law_664 rfl rfl ?_
  refine gl_iconst (pc := 665) (v := (1 : Int32)) dL_law_665 (by decide) ?_
  refine gl_iadd (pc := 666) dL_law_666 ?_
  refine gl_sld (pc := 667) dL_law_667 hv1 ?_
  obtain ⟨r, m1, h1, h2, hi2⟩ := ha t m ((xs (x3 + (1 : Int32)).toNatClampNeg)) ht hi
  refine gl_callVi (pc := 668) (As := [.int (xs (x3 + (1 : Int32)).toNatClampNeg)]) (st := []) dL_law_668 (c_X6_senior _ _ h1) (by decide) ce_X6_senior ml_L_89 in_X6_senior se_X6_senior cl_X6 rfl rfl (Nat.le_of_ble_eq_true rfl) rfl ?_
  refine gl_aload_n (pc := 671) dL_law_671 rfl rfl ?_
  refine gl_aload_n (pc := 672) dL_law_672 rfl rfl ?_
  refine gl_iload_n (pc := 673) dL_law_673 rfl rfl ?_
  refine gl_iconst (pc := 674) (v := (1 : Int32)) dL_law_674 (by decide) ?_
  refine gl_iadd (pc := 675) dL_law_675 ?_
  refine gl_sld (pc := 676) dL_law_676 hv1 ?_
  refine gl_callVi (pc := 677) (As := [.int (xs (x3 + (1 : Int32)).toNatClampNeg)]) (st := [.int r]) dL_law_677 (c_X7_senior _ _ h2) (by decide) ce_X7_senior ml_L_92 in_X7_senior se_X7_senior cl_X7 rfl rfl (Nat.le_of_ble_eq_true rfl) rfl ?_
  refine gl_icmp_eq (pc := 680) (tgt := 1060) dL_law_680 (by decide) (fun _ => ?_) (fun c => absurd rfl c)
  exact hk _ hi2
set_option maxRecDepth 100000 in
set_option maxHeartbeats 4000000 in
theorem lc_19 {Inv : Nat → fm_M → Prop} (ha : ag_shabby Inv) {L : Nat} {xs : Nat → Int32} {Post : Option Value → fm_M → Prop} {t : Nat} {m : fm_M} {x3 : Int32} (ht : t < 512) (hi : Inv t m) (hv1 : vp_in (x3 + 1) L) (hv2 : vp_in (x3 + 2) L) (hk : ∀ m', Inv (t + 1) m' → fm_GL L xs fm_layW 11 m_L_law Post 1060 [some (.ref 4000), some (.ref 0), some (.ref 23), some (.int x3), none, none, none, none] [] m') : fm_GL L xs fm_layW 11 m_L_law Post 685 [some (.ref 4000), some (.ref 0), some (.ref 23), some (.int x3), none, none, none, none] [] m := by
  refine gl_aload_n (pc := 685) dL_law_685 rfl rfl ?_
  refine gl_aload_n (pc := 686) dL_law_686 rfl rfl ?_
  refine gl_iload_n (pc := 687) dL_law_687 rfl rfl ?_
  refine gl_iconst (pc := 688) (v := (1 : Int32)) dL_law_688 (by decide) ?_
  refine gl_iadd (pc := 689) dL_law_689 ?_
  refine gl_sld (pc := 690) dL_law_690 hv1 ?_
  obtain ⟨r, m1, h1, h2, hi2⟩ := ha t m ((xs (x3 + (1 : Int32)).toNatClampNeg)) ht hi
  refine gl_callVi (pc := 691) (As := [.int (xs (x3 + (1 : Int32)).toNatClampNeg)]) (st := []) dL_law_691 (c_X6_shabby _ _ h1) (by decide) ce_X6_shabby ml_L_93 in_X6_shabby se_X6_shabby cl_X6 rfl rfl (Nat.le_of_ble_eq_true rfl) rfl ?_
  refine gl_aload_n (pc := 694) dL_law_694 rfl rfl ?_
  refine gl_aload_n (pc := 695) dL_law_695 rfl rfl ?_
  refine gl_iload_n (pc := 696) dL_law_696 rfl rfl ?_
  refine gl_iconst (pc := 697) (v := (1 : Int32)) dL_law_697 (by decide) ?_
  refine gl_iadd (pc := 698) dL_law_698 ?_
  refine gl_sld (pc := 699) dL_law_699 hv1 ?_
  refine gl_callVi (pc := 700) (As := [.int (xs (x3 + (1 : Int32)).toNatClampNeg)]) (st := [.int r]) dL_law_700 (c_X7_shabby _ _ h2) (by decide) ce_X7_shabby ml_L_96 in_X7_shabby se_X7_shabby cl_X7 rfl rfl (Nat.le_of_ble_eq_true rfl) rfl ?_
  refine gl_icmp_eq (pc := 703) (tgt := 1060) dL_law_703 (by decide) (fun _ => ?_) (fun c => absurd rfl c)
  exact hk _ hi2
set_option maxRecDepth 100000 in
set_option maxHeartbeats 4000000 in
theorem lc_20 {Inv : Nat → fm_M → Prop} (ha : ag_nextFeast Inv) {L : Nat} {xs : Nat → Int32} {Post : Option Value → fm_M → Prop} {t : Nat} {m : fm_M} {x3 : Int32} (ht : t < 512) (hi : Inv t m) (hv1 : vp_in (x3 + 1) L) (hv2 : vp_in (x3 + 2) L) (hk : ∀ m', Inv (t + 1) m' → fm_GL L xs fm_layW 11 m_L_law Post 1060 [some (.ref 4000), some (.ref 0), some (.ref 23), some (.int x3), none, none, none, none] [] m') : fm_GL L xs fm_layW 11 m_L_law Post 708 [some (.ref 4000), some (.ref 0), some (.ref 23), some (.int x3), none, none, none, none] [] m := by
  refine gl_aload_n (pc := 708) dL_law_708 rfl rfl ?_
  obtain ⟨r, h1, h2, hi2⟩ := ha t m  ht hi
  refine gl_callVi (pc := 709) (As := []) (st := []) dL_law_709 (c_X6_nextFeast _ h1) (by decide) ce_X6_nextFeast ml_L_97 in_X6_nextFeast se_X6_nextFeast cl_X6 rfl rfl (Nat.le_of_ble_eq_true rfl) rfl ?_
  refine gl_aload_n (pc := 712) dL_law_712 rfl rfl ?_
  refine gl_callVi (pc := 713) (As := []) (st := [.int r]) dL_law_713 (c_X7_nextFeast _ h2) (by decide) ce_X7_nextFeast ml_L_100 in_X7_nextFeast se_X7_nextFeast cl_X7 rfl rfl (Nat.le_of_ble_eq_true rfl) rfl ?_
  refine gl_icmp_eq (pc := 716) (tgt := 1060) dL_law_716 (by decide) (fun _ => ?_) (fun c => absurd rfl c)
  exact hk _ hi2
set_option maxRecDepth 100000 in
set_option maxHeartbeats 4000000 in
theorem lc_21 {Inv : Nat → fm_M → Prop} (ha : ag_wouldGet Inv) {L : Nat} {xs : Nat → Int32} {Post : Option Value → fm_M → Prop} {t : Nat} {m : fm_M} {x3 : Int32} (ht : t < 512) (hi : Inv t m) (hv1 : vp_in (x3 + 1) L) (hv2 : vp_in (x3 + 2) L) (hk : ∀ m', Inv (t + 1) m' → fm_GL L xs fm_layW 11 m_L_law Post 1060 [some (.ref 4000), some (.ref 0), some (.ref 23), some (.int x3), none, none, none, none] [] m') : fm_GL L xs fm_layW 11 m_L_law Post 721 [some (.ref 4000), some (.ref 0), some (.ref 23), some (.int x3), none, none, none, none] [] m := by
  refine gl_aload_n (pc := 721) dL_law_721 rfl rfl ?_
  refine gl_aload_n (pc := 722) dL_law_722 rfl rfl ?_
  refine gl_iload_n (pc := 723) dL_law_723 rfl rfl ?_
  refine gl_iconst (pc := 724) (v := (1 : Int32)) dL_law_724 (by decide) ?_
  refine gl_iadd (pc := 725) dL_law_725 ?_
  refine gl_sld (pc := 726) dL_law_726 hv1 ?_
  refine gl_aload_n (pc := 727) dL_law_727 rfl rfl ?_
  refine gl_iload_n (pc := 728) dL_law_728 rfl rfl ?_
  refine gl_iconst (pc := 729) (v := (2 : Int32)) dL_law_729 (by decide) ?_
  refine gl_iadd (pc := 730) dL_law_730 ?_
  refine gl_sld (pc := 731) dL_law_731 hv2 ?_
  obtain ⟨r, m1, m2, h1, h2, hi2⟩ := ha t m ((xs (x3 + (1 : Int32)).toNatClampNeg)) ((xs (x3 + (2 : Int32)).toNatClampNeg)) ht hi
  refine gl_callVi (pc := 732) (As := [.int (xs (x3 + (1 : Int32)).toNatClampNeg), .int (xs (x3 + (2 : Int32)).toNatClampNeg)]) (st := []) dL_law_732 (c_X6_wouldGet _ _ _ h1) (by decide) ce_X6_wouldGet ml_L_101 in_X6_wouldGet se_X6_wouldGet cl_X6 rfl rfl (Nat.le_of_ble_eq_true rfl) rfl ?_
  refine gl_aload_n (pc := 735) dL_law_735 rfl rfl ?_
  refine gl_aload_n (pc := 736) dL_law_736 rfl rfl ?_
  refine gl_iload_n (pc := 737) dL_law_737 rfl rfl ?_
  refine gl_iconst (pc := 738) (v := (1 : Int32)) dL_law_738 (by decide) ?_
  refine gl_iadd (pc := 739) dL_law_739 ?_
  refine gl_sld (pc := 740) dL_law_740 hv1 ?_
  refine gl_aload_n (pc := 741) dL_law_741 rfl rfl ?_
  refine gl_iload_n (pc := 742) dL_law_742 rfl rfl ?_
  refine gl_iconst (pc := 743) (v := (2 : Int32)) dL_law_743 (by decide) ?_
  refine gl_iadd (pc := 744) dL_law_744 ?_
  refine gl_sld (pc := 745) dL_law_745 hv2 ?_
  refine gl_callVi (pc := 746) (As := [.int (xs (x3 + (1 : Int32)).toNatClampNeg), .int (xs (x3 + (2 : Int32)).toNatClampNeg)]) (st := [.int r]) dL_law_746 (c_X7_wouldGet _ _ _ h2) (by decide) ce_X7_wouldGet ml_L_104 in_X7_wouldGet se_X7_wouldGet cl_X7 rfl rfl (Nat.le_of_ble_eq_true rfl) rfl ?_
  refine gl_icmp_eq (pc := 749) (tgt := 1060) dL_law_749 (by decide) (fun _ => ?_) (fun c => absurd rfl c)
  exact hk _ hi2
set_option maxRecDepth 100000 in
set_option maxHeartbeats 4000000 in
theorem lc_22 {Inv : Nat → fm_M → Prop} (ha : ag_chestIn Inv) {L : Nat} {xs : Nat → Int32} {Post : Option Value → fm_M → Prop} {t : Nat} {m : fm_M} {x3 : Int32} (ht : t < 512) (hi : Inv t m) (hv1 : vp_in (x3 + 1) L) (hv2 : vp_in (x3 + 2) L) (hk : ∀ m', Inv (t + 1) m' → fm_GL L xs fm_layW 11 m_L_law Post 1060 [some (.ref 4000), some (.ref 0), some (.ref 23), some (.int x3), none, none, none, none] [] m') : fm_GL L xs fm_layW 11 m_L_law Post 754 [some (.ref 4000), some (.ref 0), some (.ref 23), some (.int x3), none, none, none, none] [] m := by
  refine gl_aload_n (pc := 754) dL_law_754 rfl rfl ?_
  refine gl_aload_n (pc := 755) dL_law_755 rfl rfl ?_
  refine gl_iload_n (pc := 756) dL_law_756 rfl rfl ?_
  refine gl_iconst (pc := 757) (v := (1 : Int32)) dL_law_757 (by decide) ?_
  refine gl_iadd (pc := 758) dL_law_758 ?_
  refine gl_sld (pc := 759) dL_law_759 hv1 ?_
  obtain ⟨r, m1, m2, h1, h2, hi2⟩ := ha t m ((xs (x3 + (1 : Int32)).toNatClampNeg)) ht hi
  refine gl_callVi (pc := 760) (As := [.int (xs (x3 + (1 : Int32)).toNatClampNeg)]) (st := []) dL_law_760 (c_X6_chestIn _ _ h1) (by decide) ce_X6_chestIn ml_L_105 in_X6_chestIn se_X6_chestIn cl_X6 rfl rfl (Nat.le_of_ble_eq_true rfl) rfl ?_
  refine gl_aload_n (pc := 763) dL_law_763 rfl rfl ?_
  refine gl_aload_n (pc := 764) dL_law_764 rfl rfl ?_
  refine gl_iload_n (pc := 765) dL_law_765 rfl rfl ?_
  refine gl_iconst (pc := 766) (v := (1 : Int32)) dL_law_766 (by decide) ?_
  refine gl_iadd (pc := 767) dL_law_767 ?_
  refine gl_sld (pc := 768) dL_law_768 hv1 ?_
  refine gl_callVi (pc := 769) (As := [.int (xs (x3 + (1 : Int32)).toNatClampNeg)]) (st := [.int r]) dL_law_769 (c_X7_chestIn _ _ h2) (by decide) ce_X7_chestIn ml_L_108 in_X7_chestIn se_X7_chestIn cl_X7 rfl rfl (Nat.le_of_ble_eq_true rfl) rfl ?_
  refine gl_icmp_eq (pc := 772) (tgt := 1060) dL_law_772 (by decide) (fun _ => ?_) (fun c => absurd rfl c)
  exact hk _ hi2
set_option maxRecDepth 100000 in
set_option maxHeartbeats 4000000 in
theorem lc_23 {Inv : Nat → fm_M → Prop} (ha : ag_append Inv) {L : Nat} {xs : Nat → Int32} {Post : Option Value → fm_M → Prop} {t : Nat} {m : fm_M} {x3 : Int32} (ht : t < 512) (hi : Inv t m) (hv1 : vp_in (x3 + 1) L) (hv2 : vp_in (x3 + 2) L) (hk : ∀ m', Inv (t + 1) m' → fm_GL L xs fm_layW 11 m_L_law Post 1060 [some (.ref 4000), some (.ref 0), some (.ref 23), some (.int x3), none, none, none, none] [] m') : fm_GL L xs fm_layW 11 m_L_law Post 777 [some (.ref 4000), some (.ref 0), some (.ref 23), some (.int x3), none, none, none, none] [] m := by
  refine gl_aload_n (pc := 777) dL_law_777 rfl rfl ?_
  refine gl_aload_n (pc := 778) dL_law_778 rfl rfl ?_
  refine gl_iload_n (pc := 779) dL_law_779 rfl rfl ?_
  refine gl_iconst (pc := 780) (v := (1 : Int32)) dL_law_780 (by decide) ?_
  refine gl_iadd (pc := 781) dL_law_781 ?_
  refine gl_sld (pc := 782) dL_law_782 hv1 ?_
  obtain ⟨r, m1, m2, h1, h2, hi2⟩ := ha t m ((xs (x3 + (1 : Int32)).toNatClampNeg)) ht hi
  refine gl_callVi (pc := 783) (As := [.int (xs (x3 + (1 : Int32)).toNatClampNeg)]) (st := []) dL_law_783 (c_X6_append _ _ h1) (by decide) ce_X6_append ml_L_109 in_X6_append se_X6_append cl_X6 rfl rfl (Nat.le_of_ble_eq_true rfl) rfl ?_
  refine gl_aload_n (pc := 786) dL_law_786 rfl rfl ?_
  refine gl_aload_n (pc := 787) dL_law_787 rfl rfl ?_
  refine gl_iload_n (pc := 788) dL_law_788 rfl rfl ?_
  refine gl_iconst (pc := 789) (v := (1 : Int32)) dL_law_789 (by decide) ?_
  refine gl_iadd (pc := 790) dL_law_790 ?_
  refine gl_sld (pc := 791) dL_law_791 hv1 ?_
  refine gl_callVi (pc := 792) (As := [.int (xs (x3 + (1 : Int32)).toNatClampNeg)]) (st := [.int r]) dL_law_792 (c_X7_append _ _ h2) (by decide) ce_X7_append ml_L_112 in_X7_append se_X7_append cl_X7 rfl rfl (Nat.le_of_ble_eq_true rfl) rfl ?_
  refine gl_icmp_eq (pc := 795) (tgt := 1060) dL_law_795 (by decide) (fun _ => ?_) (fun c => absurd rfl c)
  exact hk _ hi2
set_option maxRecDepth 100000 in
set_option maxHeartbeats 4000000 in
theorem lc_24 {Inv : Nat → fm_M → Prop} (ha : ag_run Inv) {L : Nat} {xs : Nat → Int32} {Post : Option Value → fm_M → Prop} {t : Nat} {m : fm_M} {x3 : Int32} (ht : t < 512) (hi : Inv t m) (hv1 : vp_in (x3 + 1) L) (hv2 : vp_in (x3 + 2) L) (hk : ∀ m', Inv (t + 1) m' → fm_GL L xs fm_layW 11 m_L_law Post 1060 [some (.ref 4000), some (.ref 0), some (.ref 23), some (.int x3), none, none, none, none] [] m') : fm_GL L xs fm_layW 11 m_L_law Post 800 [some (.ref 4000), some (.ref 0), some (.ref 23), some (.int x3), none, none, none, none] [] m := by
  refine gl_aload_n (pc := 800) dL_law_800 rfl rfl ?_
  obtain ⟨r, m1, m2, h1, h2, hi2⟩ := ha t m  ht hi
  refine gl_callVi (pc := 801) (As := []) (st := []) dL_law_801 (c_X6_run _ h1) (by decide) ce_X6_run ml_L_113 in_X6_run se_X6_run cl_X6 rfl rfl (Nat.le_of_ble_eq_true rfl) rfl ?_
  refine gl_aload_n (pc := 804) dL_law_804 rfl rfl ?_
  refine gl_callVi (pc := 805) (As := []) (st := [.int r]) dL_law_805 (c_X7_run _ h2) (by decide) ce_X7_run ml_L_116 in_X7_run se_X7_run cl_X7 rfl rfl (Nat.le_of_ble_eq_true rfl) rfl ?_
  refine gl_icmp_eq (pc := 808) (tgt := 1060) dL_law_808 (by decide) (fun _ => ?_) (fun c => absurd rfl c)
  exact hk _ hi2
set_option maxRecDepth 100000 in
set_option maxHeartbeats 4000000 in
theorem lc_25 {Inv : Nat → fm_M → Prop} (ha : ag_tell Inv) {L : Nat} {xs : Nat → Int32} {Post : Option Value → fm_M → Prop} {t : Nat} {m : fm_M} {x3 : Int32} (ht : t < 512) (hi : Inv t m) (hv1 : vp_in (x3 + 1) L) (hv2 : vp_in (x3 + 2) L) (hk : ∀ m', Inv (t + 1) m' → fm_GL L xs fm_layW 11 m_L_law Post 1060 [some (.ref 4000), some (.ref 0), some (.ref 23), some (.int x3), none, none, none, none] [] m') : fm_GL L xs fm_layW 11 m_L_law Post 813 [some (.ref 4000), some (.ref 0), some (.ref 23), some (.int x3), none, none, none, none] [] m := by
  refine gl_aload_n (pc := 813) dL_law_813 rfl rfl ?_
  obtain ⟨r, m1, m2, h1, h2, hi2⟩ := ha t m  ht hi
  refine gl_callVi (pc := 814) (As := []) (st := []) dL_law_814 (c_X6_tell _ h1) (by decide) ce_X6_tell ml_L_117 in_X6_tell se_X6_tell cl_X6 rfl rfl (Nat.le_of_ble_eq_true rfl) rfl ?_
  refine gl_aload_n (pc := 817) dL_law_817 rfl rfl ?_
  refine gl_callVi (pc := 818) (As := []) (st := [.int r]) dL_law_818 (c_X7_tell _ h2) (by decide) ce_X7_tell ml_L_120 in_X7_tell se_X7_tell cl_X7 rfl rfl (Nat.le_of_ble_eq_true rfl) rfl ?_
  refine gl_icmp_eq (pc := 821) (tgt := 1060) dL_law_821 (by decide) (fun _ => ?_) (fun c => absurd rfl c)
  exact hk _ hi2
set_option maxRecDepth 100000 in
set_option maxHeartbeats 4000000 in
theorem lc_26 {Inv : Nat → fm_M → Prop} (ha : ag_tellWaiting Inv) {L : Nat} {xs : Nat → Int32} {Post : Option Value → fm_M → Prop} {t : Nat} {m : fm_M} {x3 : Int32} (ht : t < 512) (hi : Inv t m) (hv1 : vp_in (x3 + 1) L) (hv2 : vp_in (x3 + 2) L) (hk : ∀ m', Inv (t + 1) m' → fm_GL L xs fm_layW 11 m_L_law Post 1060 [some (.ref 4000), some (.ref 0), some (.ref 23), some (.int x3), none, none, none, none] [] m') : fm_GL L xs fm_layW 11 m_L_law Post 826 [some (.ref 4000), some (.ref 0), some (.ref 23), some (.int x3), none, none, none, none] [] m := by
  refine gl_aload_n (pc := 826) dL_law_826 rfl rfl ?_
  obtain ⟨r, m1, m2, h1, h2, hi2⟩ := ha t m  ht hi
  refine gl_callVi (pc := 827) (As := []) (st := []) dL_law_827 (c_X6_tellWaiting _ h1) (by decide) ce_X6_tellWaiting ml_L_121 in_X6_tellWaiting se_X6_tellWaiting cl_X6 rfl rfl (Nat.le_of_ble_eq_true rfl) rfl ?_
  refine gl_aload_n (pc := 830) dL_law_830 rfl rfl ?_
  refine gl_callVi (pc := 831) (As := []) (st := [.int r]) dL_law_831 (c_X7_tellWaiting _ h2) (by decide) ce_X7_tellWaiting ml_L_124 in_X7_tellWaiting se_X7_tellWaiting cl_X7 rfl rfl (Nat.le_of_ble_eq_true rfl) rfl ?_
  refine gl_icmp_eq (pc := 834) (tgt := 1060) dL_law_834 (by decide) (fun _ => ?_) (fun c => absurd rfl c)
  exact hk _ hi2
set_option maxRecDepth 100000 in
set_option maxHeartbeats 4000000 in
theorem lc_27 {Inv : Nat → fm_M → Prop} (ha : ag_character Inv) {L : Nat} {xs : Nat → Int32} {Post : Option Value → fm_M → Prop} {t : Nat} {m : fm_M} {x3 : Int32} (ht : t < 512) (hi : Inv t m) (hv1 : vp_in (x3 + 1) L) (hv2 : vp_in (x3 + 2) L) (hk : ∀ m', Inv (t + 1) m' → fm_GL L xs fm_layW 11 m_L_law Post 1060 [some (.ref 4000), some (.ref 0), some (.ref 23), some (.int x3), none, none, none, none] [] m') : fm_GL L xs fm_layW 11 m_L_law Post 839 [some (.ref 4000), some (.ref 0), some (.ref 23), some (.int x3), none, none, none, none] [] m := by
  refine gl_aload_n (pc := 839) dL_law_839 rfl rfl ?_
  refine gl_aload_n (pc := 840) dL_law_840 rfl rfl ?_
  refine gl_iload_n (pc := 841) dL_law_841 rfl rfl ?_
  refine gl_iconst (pc := 842) (v := (1 : Int32)) dL_law_842 (by decide) ?_
  refine gl_iadd (pc := 843) dL_law_843 ?_
  refine gl_sld (pc := 844) dL_law_844 hv1 ?_
  obtain ⟨r, h1, h2, hi2⟩ := ha t m ((xs (x3 + (1 : Int32)).toNatClampNeg)) ht hi
  refine gl_callVi (pc := 845) (As := [.int (xs (x3 + (1 : Int32)).toNatClampNeg)]) (st := []) dL_law_845 (c_X6_character _ _ h1) (by decide) ce_X6_character ml_L_125 in_X6_character se_X6_character cl_X6 rfl rfl (Nat.le_of_ble_eq_true rfl) rfl ?_
  refine gl_aload_n (pc := 848) dL_law_848 rfl rfl ?_
  refine gl_aload_n (pc := 849) dL_law_849 rfl rfl ?_
  refine gl_iload_n (pc := 850) dL_law_850 rfl rfl ?_
  refine gl_iconst (pc := 851) (v := (1 : Int32)) dL_law_851 (by decide) ?_
  refine gl_iadd (pc := 852) dL_law_852 ?_
  refine gl_sld (pc := 853) dL_law_853 hv1 ?_
  refine gl_callVi (pc := 854) (As := [.int (xs (x3 + (1 : Int32)).toNatClampNeg)]) (st := [.int r]) dL_law_854 (c_X7_character _ _ h2) (by decide) ce_X7_character ml_L_128 in_X7_character se_X7_character cl_X7 rfl rfl (Nat.le_of_ble_eq_true rfl) rfl ?_
  refine gl_icmp_eq (pc := 857) (tgt := 1060) dL_law_857 (by decide) (fun _ => ?_) (fun c => absurd rfl c)
  exact hk _ hi2
set_option maxRecDepth 100000 in
set_option maxHeartbeats 4000000 in
theorem lc_28 {Inv : Nat → fm_M → Prop} (ha : ag_reason Inv) {L : Nat} {xs : Nat → Int32} {Post : Option Value → fm_M → Prop} {t : Nat} {m : fm_M} {x3 : Int32} (ht : t < 512) (hi : Inv t m) (hv1 : vp_in (x3 + 1) L) (hv2 : vp_in (x3 + 2) L) (hk : ∀ m', Inv (t + 1) m' → fm_GL L xs fm_layW 11 m_L_law Post 1060 [some (.ref 4000), some (.ref 0), some (.ref 23), some (.int x3), none, none, none, none] [] m') : fm_GL L xs fm_layW 11 m_L_law Post 862 [some (.ref 4000), some (.ref 0), some (.ref 23), some (.int x3), none, none, none, none] [] m := by
  refine gl_aload_n (pc := 862) dL_law_862 rfl rfl ?_
  refine gl_aload_n (pc := 863) dL_law_863 rfl rfl ?_
  refine gl_iload_n (pc := 864) dL_law_864 rfl rfl ?_
  refine gl_iconst (pc := 865) (v := (1 : Int32)) dL_law_865 (by decide) ?_
  refine gl_iadd (pc := 866) dL_law_866 ?_
  refine gl_sld (pc := 867) dL_law_867 hv1 ?_
  by_cases hz : xs (x3 + (1 : Int32)).toNatClampNeg = 0
  · refine gl_if_eq (pc := 868) (tgt := 875) dL_law_868 (by decide) (fun _ => ?_) (fun c => absurd hz c)
    refine gl_iconst (pc := 875) (v := (0 : Int32)) dL_law_875 (by decide) ?_
    obtain ⟨r, h1, h2, hi2⟩ := ha t m ((0 : Int32)) ht hi (by decide)
    refine gl_callVi (pc := 876) (As := [.int (0 : Int32)]) (st := []) dL_law_876 (c_X6_reason _ _ h1) (by decide) ce_X6_reason ml_L_129 in_X6_reason se_X6_reason cl_X6 rfl rfl (Nat.le_of_ble_eq_true rfl) rfl ?_
    refine gl_aload_n (pc := 879) dL_law_879 rfl rfl ?_
    refine gl_aload_n (pc := 880) dL_law_880 rfl rfl ?_
    refine gl_iload_n (pc := 881) dL_law_881 rfl rfl ?_
    refine gl_iconst (pc := 882) (v := (1 : Int32)) dL_law_882 (by decide) ?_
    refine gl_iadd (pc := 883) dL_law_883 ?_
    refine gl_sld (pc := 884) dL_law_884 hv1 ?_
    refine gl_if_eq (pc := 885) (tgt := 892) dL_law_885 (by decide) (fun _ => ?_) (fun c => absurd hz c)
    refine gl_iconst (pc := 892) (v := (0 : Int32)) dL_law_892 (by decide) ?_
    refine gl_callVi (pc := 893) (As := [.int (0 : Int32)]) (st := [.int r]) dL_law_893 (c_X7_reason _ _ h2) (by decide) ce_X7_reason ml_L_133 in_X7_reason se_X7_reason cl_X7 rfl rfl (Nat.le_of_ble_eq_true rfl) rfl ?_
    refine gl_icmp_eq (pc := 896) (tgt := 1060) dL_law_896 (by decide) (fun _ => ?_) (fun c => absurd rfl c)
    exact hk _ hi2
  · refine gl_if_eq (pc := 868) (tgt := 875) dL_law_868 (by decide) (fun c => absurd c hz) (fun _ => ?_)
    refine gl_iconst (pc := 871) (v := (1 : Int32)) dL_law_871 (by decide) ?_
    refine gl_goto (pc := 872) (tgt := 876) dL_law_872 (by decide) ?_
    obtain ⟨r, h1, h2, hi2⟩ := ha t m ((1 : Int32)) ht hi (by decide)
    refine gl_callVi (pc := 876) (As := [.int (1 : Int32)]) (st := []) dL_law_876 (c_X6_reason _ _ h1) (by decide) ce_X6_reason ml_L_129 in_X6_reason se_X6_reason cl_X6 rfl rfl (Nat.le_of_ble_eq_true rfl) rfl ?_
    refine gl_aload_n (pc := 879) dL_law_879 rfl rfl ?_
    refine gl_aload_n (pc := 880) dL_law_880 rfl rfl ?_
    refine gl_iload_n (pc := 881) dL_law_881 rfl rfl ?_
    refine gl_iconst (pc := 882) (v := (1 : Int32)) dL_law_882 (by decide) ?_
    refine gl_iadd (pc := 883) dL_law_883 ?_
    refine gl_sld (pc := 884) dL_law_884 hv1 ?_
    refine gl_if_eq (pc := 885) (tgt := 892) dL_law_885 (by decide) (fun c => absurd c hz) (fun _ => ?_)
    refine gl_iconst (pc := 888) (v := (1 : Int32)) dL_law_888 (by decide) ?_
    refine gl_goto (pc := 889) (tgt := 893) dL_law_889 (by decide) ?_
    refine gl_callVi (pc := 893) (As := [.int (1 : Int32)]) (st := [.int r]) dL_law_893 (c_X7_reason _ _ h2) (by decide) ce_X7_reason ml_L_133 in_X7_reason se_X7_reason cl_X7 rfl rfl (Nat.le_of_ble_eq_true rfl) rfl ?_
    refine gl_icmp_eq (pc := 896) (tgt := 1060) dL_law_896 (by decide) (fun _ => ?_) (fun c => absurd rfl c)
    exact hk _ hi2
set_option maxRecDepth 100000 in
set_option maxHeartbeats 4000000 in
theorem lc_29 {Inv : Nat → fm_M → Prop} (ha : ag_account Inv) {L : Nat} {xs : Nat → Int32} {Post : Option Value → fm_M → Prop} {t : Nat} {m : fm_M} {x3 : Int32} (ht : t < 512) (hi : Inv t m) (hv1 : vp_in (x3 + 1) L) (hv2 : vp_in (x3 + 2) L) (hk : ∀ m', Inv (t + 1) m' → fm_GL L xs fm_layW 11 m_L_law Post 1060 [some (.ref 4000), some (.ref 0), some (.ref 23), some (.int x3), none, none, none, none] [] m') : fm_GL L xs fm_layW 11 m_L_law Post 901 [some (.ref 4000), some (.ref 0), some (.ref 23), some (.int x3), none, none, none, none] [] m := by
  refine gl_aload_n (pc := 901) dL_law_901 rfl rfl ?_
  refine gl_aload_n (pc := 902) dL_law_902 rfl rfl ?_
  refine gl_iload_n (pc := 903) dL_law_903 rfl rfl ?_
  refine gl_iconst (pc := 904) (v := (1 : Int32)) dL_law_904 (by decide) ?_
  refine gl_iadd (pc := 905) dL_law_905 ?_
  refine gl_sld (pc := 906) dL_law_906 hv1 ?_
  obtain ⟨r, h1, h2, hi2⟩ := ha t m ((xs (x3 + (1 : Int32)).toNatClampNeg)) ht hi
  refine gl_callVi (pc := 907) (As := [.int (xs (x3 + (1 : Int32)).toNatClampNeg)]) (st := []) dL_law_907 (c_X6_account _ _ h1) (by decide) ce_X6_account ml_L_134 in_X6_account se_X6_account cl_X6 rfl rfl (Nat.le_of_ble_eq_true rfl) rfl ?_
  refine gl_aload_n (pc := 910) dL_law_910 rfl rfl ?_
  refine gl_aload_n (pc := 911) dL_law_911 rfl rfl ?_
  refine gl_iload_n (pc := 912) dL_law_912 rfl rfl ?_
  refine gl_iconst (pc := 913) (v := (1 : Int32)) dL_law_913 (by decide) ?_
  refine gl_iadd (pc := 914) dL_law_914 ?_
  refine gl_sld (pc := 915) dL_law_915 hv1 ?_
  refine gl_callVi (pc := 916) (As := [.int (xs (x3 + (1 : Int32)).toNatClampNeg)]) (st := [.int r]) dL_law_916 (c_X7_account _ _ h2) (by decide) ce_X7_account ml_L_137 in_X7_account se_X7_account cl_X7 rfl rfl (Nat.le_of_ble_eq_true rfl) rfl ?_
  refine gl_icmp_eq (pc := 919) (tgt := 1060) dL_law_919 (by decide) (fun _ => ?_) (fun c => absurd rfl c)
  exact hk _ hi2
set_option maxRecDepth 100000 in
set_option maxHeartbeats 4000000 in
theorem lc_30 {Inv : Nat → fm_M → Prop} (ha : ag_isBalanced Inv) {L : Nat} {xs : Nat → Int32} {Post : Option Value → fm_M → Prop} {t : Nat} {m : fm_M} {x3 : Int32} (ht : t < 512) (hi : Inv t m) (hv1 : vp_in (x3 + 1) L) (hv2 : vp_in (x3 + 2) L) (hk : ∀ m', Inv (t + 1) m' → fm_GL L xs fm_layW 11 m_L_law Post 1060 [some (.ref 4000), some (.ref 0), some (.ref 23), some (.int x3), none, none, none, none] [] m') : fm_GL L xs fm_layW 11 m_L_law Post 924 [some (.ref 4000), some (.ref 0), some (.ref 23), some (.int x3), none, none, none, none] [] m := by
  refine gl_aload_n (pc := 924) dL_law_924 rfl rfl ?_
  obtain ⟨r, h1, h2, hi2⟩ := ha t m  ht hi
  refine gl_callVi (pc := 925) (As := []) (st := []) dL_law_925 (c_X6_isBalanced _ h1) (by decide) ce_X6_isBalanced ml_L_138 in_X6_isBalanced se_X6_isBalanced cl_X6 rfl rfl (Nat.le_of_ble_eq_true rfl) rfl ?_
  refine gl_aload_n (pc := 928) dL_law_928 rfl rfl ?_
  refine gl_callVi (pc := 929) (As := []) (st := [.int r]) dL_law_929 (c_X7_isBalanced _ h2) (by decide) ce_X7_isBalanced ml_L_141 in_X7_isBalanced se_X7_isBalanced cl_X7 rfl rfl (Nat.le_of_ble_eq_true rfl) rfl ?_
  refine gl_icmp_eq (pc := 932) (tgt := 1060) dL_law_932 (by decide) (fun _ => ?_) (fun c => absurd rfl c)
  exact hk _ hi2
set_option maxRecDepth 100000 in
set_option maxHeartbeats 4000000 in
theorem lc_33 {Inv : Nat → fm_M → Prop} (ha : ag_undo Inv) {L : Nat} {xs : Nat → Int32} {Post : Option Value → fm_M → Prop} {t : Nat} {m : fm_M} {x3 : Int32} (ht : t < 512) (hi : Inv t m) (hv1 : vp_in (x3 + 1) L) (hv2 : vp_in (x3 + 2) L) (hk : ∀ m', Inv (t + 1) m' → fm_GL L xs fm_layW 11 m_L_law Post 1060 [some (.ref 4000), some (.ref 0), some (.ref 23), some (.int x3), none, none, none, none] [] m') : fm_GL L xs fm_layW 11 m_L_law Post 1021 [some (.ref 4000), some (.ref 0), some (.ref 23), some (.int x3), none, none, none, none] [] m := by
  refine gl_aload_n (pc := 1021) dL_law_1021 rfl rfl ?_
  obtain ⟨r, m1, m2, h1, h2, hi2⟩ := ha t m  ht hi
  refine gl_callVi (pc := 1022) (As := []) (st := []) dL_law_1022 (c_X6_undo _ h1) (by decide) ce_X6_undo ml_L_152 in_X6_undo se_X6_undo cl_X6 rfl rfl (Nat.le_of_ble_eq_true rfl) rfl ?_
  refine gl_aload_n (pc := 1025) dL_law_1025 rfl rfl ?_
  refine gl_callVi (pc := 1026) (As := []) (st := [.int r]) dL_law_1026 (c_X7_undo _ h2) (by decide) ce_X7_undo ml_L_155 in_X7_undo se_X7_undo cl_X7 rfl rfl (Nat.le_of_ble_eq_true rfl) rfl ?_
  refine gl_icmp_eq (pc := 1029) (tgt := 1060) dL_law_1029 (by decide) (fun _ => ?_) (fun c => absurd rfl c)
  exact hk _ hi2
set_option maxRecDepth 100000 in
set_option maxHeartbeats 4000000 in
theorem lc_34 {Inv : Nat → fm_M → Prop} (ha : ag_save Inv) {L : Nat} {xs : Nat → Int32} {Post : Option Value → fm_M → Prop} {t : Nat} {m : fm_M} {x3 : Int32} (ht : t < 512) (hi : Inv t m) (hv1 : vp_in (x3 + 1) L) (hv2 : vp_in (x3 + 2) L) (hk : ∀ m', Inv (t + 1) m' → fm_GL L xs fm_layW 11 m_L_law Post 1060 [some (.ref 4000), some (.ref 0), some (.ref 23), some (.int x3), none, none, none, none] [] m') : fm_GL L xs fm_layW 11 m_L_law Post 1034 [some (.ref 4000), some (.ref 0), some (.ref 23), some (.int x3), none, none, none, none] [] m := by
  refine gl_aload_n (pc := 1034) dL_law_1034 rfl rfl ?_
  obtain ⟨r, m1, m2, h1, h2, hi2⟩ := ha t m  ht hi
  refine gl_callVi (pc := 1035) (As := []) (st := []) dL_law_1035 (c_X6_save _ h1) (by decide) ce_X6_save ml_L_156 in_X6_save se_X6_save cl_X6 rfl rfl (Nat.le_of_ble_eq_true rfl) rfl ?_
  refine gl_aload_n (pc := 1038) dL_law_1038 rfl rfl ?_
  refine gl_callVi (pc := 1039) (As := []) (st := [.int r]) dL_law_1039 (c_X7_save _ h2) (by decide) ce_X7_save ml_L_159 in_X7_save se_X7_save cl_X7 rfl rfl (Nat.le_of_ble_eq_true rfl) rfl ?_
  refine gl_icmp_eq (pc := 1042) (tgt := 1060) dL_law_1042 (by decide) (fun _ => ?_) (fun c => absurd rfl c)
  exact hk _ hi2
set_option maxRecDepth 100000 in
set_option maxHeartbeats 4000000 in
theorem lc_35 {Inv : Nat → fm_M → Prop} (ha : ag_restore Inv) {L : Nat} {xs : Nat → Int32} {Post : Option Value → fm_M → Prop} {t : Nat} {m : fm_M} {x3 : Int32} (ht : t < 512) (hi : Inv t m) (hv1 : vp_in (x3 + 1) L) (hv2 : vp_in (x3 + 2) L) (hk : ∀ m', Inv (t + 1) m' → fm_GL L xs fm_layW 11 m_L_law Post 1060 [some (.ref 4000), some (.ref 0), some (.ref 23), some (.int x3), none, none, none, none] [] m') : fm_GL L xs fm_layW 11 m_L_law Post 1047 [some (.ref 4000), some (.ref 0), some (.ref 23), some (.int x3), none, none, none, none] [] m := by
  refine gl_aload_n (pc := 1047) dL_law_1047 rfl rfl ?_
  obtain ⟨r, m1, m2, h1, h2, hi2⟩ := ha t m  ht hi
  refine gl_callVi (pc := 1048) (As := []) (st := []) dL_law_1048 (c_X6_restore _ h1) (by decide) ce_X6_restore ml_L_160 in_X6_restore se_X6_restore cl_X6 rfl rfl (Nat.le_of_ble_eq_true rfl) rfl ?_
  refine gl_aload_n (pc := 1051) dL_law_1051 rfl rfl ?_
  refine gl_callVi (pc := 1052) (As := []) (st := [.int r]) dL_law_1052 (c_X7_restore _ h2) (by decide) ce_X7_restore ml_L_163 in_X7_restore se_X7_restore cl_X7 rfl rfl (Nat.le_of_ble_eq_true rfl) rfl ?_
  refine gl_icmp_eq (pc := 1055) (tgt := 1060) dL_law_1055 (by decide) (fun _ => ?_) (fun c => absurd rfl c)
  exact hk _ hi2
