/-! undo -/
theorem mt_copyBack {p r : Nat} {m : fm_M} {nx : Nat} (hx : nx < 8) : f_X5_copyBack p r 13 2352 (ma_i nx * (294 : Int32)) m = some (fm_up m r (va_cpy (m 13) (m r) (294 * nx) 0 294)) := by
  unfold f_X5_copyBack
  have e : ma_i nx * (294 : Int32) = ma_i (nx * 294) := ma_mul nx 294
  have e2 : (Int32.ofNat 2352 - (294 : Int32)) = ma_i 2058 := rfl
  rw [e, e2, if_neg (ma_nn (by omega)), if_neg (by rw [ma_lt (by decide) (by omega)]; omega)]
  have ok : fm_cpok (ma_i (nx * 294)) (0 : Int32) (294 : Int32) 2352 294 = true := by
    unfold fm_cpok
    have z1 : (0 : Int32).toNatClampNeg = 0 := rfl
    have z2 : (294 : Int32).toNatClampNeg = 294 := rfl
    rw [ma_cn (by omega), z1, z2, decide_eq_true (show ¬ (0 : Int32) < 0 by decide), decide_eq_true (ma_nn (show nx * 294 < 2147483648 by omega)), decide_eq_true (show ¬ (294 : Int32) < 0 by decide), decide_eq_true (show 0 + 294 ≤ 294 by decide), decide_eq_true (show nx * 294 + 294 ≤ 2352 by omega)]
    rfl
  rw [if_pos ok, ma_cn (by omega), Nat.mul_comm]
  rfl
theorem mg_undo : ag_undo mi_Inv := by
  intro t m ht h
  have h0 := h
  obtain ⟨⟨n, hr⟩, hsv, hrs, ⟨nx, hh, fi, a1, a2, a3, a4, h8, nx8, fi8, hall⟩, htx, hln⟩ := h
  unfold f_X6_undo f_X1_giveBack
  by_cases hz : hh = 0
  · subst hz
    rw [if_pos (by rw [a2]; rfl), Option.bind_some]
    refine ⟨-15, m, m, rfl, ?_, mi_nx h0⟩
    unfold f_X7_undo
    rw [if_pos (by rw [a3]; rfl)]
  · have nz : ¬ ma_i hh = 0 := fun e => hz ((ma_inj (b := 0) (by omega) (by decide)).mp e)
    have s1 : ma_i hh - (1 : Int32) = ma_i (hh - 1) := ma_sub (b := 1) (by omega)
    have s2 : ma_i nx + (8 : Int32) - (1 : Int32) = ma_i (nx + 7) := by
      have e1 : ma_i nx + (8 : Int32) = ma_i (nx + 8) := ma_add nx 8
      rw [e1]
      exact ma_sub (b := 1) (by omega)
    have r1 : ma_i (nx + 7) - ma_i (nx + 7) / (8 : Int32) * (8 : Int32) = ma_i ((nx + 7) % 8) := ma_rem (a := nx + 7) (k := 8) (by omega) (by decide)
    rw [if_neg (by rw [a2]; exact nz)]
    simp only [ma_put, ka_up, ma_pp, a2, s1]
    have u1 : upd (m 12) 2 (ma_i (hh - 1)) 1 = ma_i nx := by unfold upd; rw [if_neg (by decide)]; exact a1
    rw [u1, s2, r1]
    have u2 : upd (upd (m 12) 2 (ma_i (hh - 1))) 1 (ma_i ((nx + 7) % 8)) 1 = ma_i ((nx + 7) % 8) := by unfold upd; rw [if_pos rfl]
    rw [u2, mt_copyBack (by omega), Option.bind_some, Option.bind_some, if_pos rfl]
    unfold f_X1_size
    rw [Option.bind_some]
    generalize hF : fm_up (fm_up m 12 (upd (upd (m 12) 2 (ma_i (hh - 1))) 1 (ma_i ((nx + 7) % 8)))) 2 (va_cpy ((fm_up m 12 (upd (upd (m 12) 2 (ma_i (hh - 1))) 1 (ma_i ((nx + 7) % 8)))) 13) ((fm_up m 12 (upd (upd (m 12) 2 (ma_i (hh - 1))) 1 (ma_i ((nx + 7) % 8)))) 2) (294 * ((nx + 7) % 8)) 0 294) = mF
    have fo : ∀ k, k ≠ 2 → k ≠ 12 → mF k = m k := fun k k2 k12 => by rw [← hF, ka_un _ k2, ka_un _ k12]
    have f12 : mF 12 = upd (upd (m 12) 2 (ma_i (hh - 1))) 1 (ma_i ((nx + 7) % 8)) := by rw [← hF, ka_un _ (by decide), ka_up]
    have f2 : ma_c (mF 2) = ma_c (fun j => m 13 (294 * ((nx + 7) % 8) + j)) := by
      rw [← hF, ka_up, ka_un _ (by decide)]
      refine ma_c_eq (fun j hj => ?_)
      unfold va_cpy
      rw [if_pos (by omega)]
      congr 1
    have f122 : mF 12 2 = ma_i (hh - 1) := by rw [f12]; unfold upd; rw [if_neg (by decide), if_pos rfl]
    show ∃ r m1 m2, some (mF 12 2, mF) = some (r, m1) ∧ _
    rw [f122]
    refine ⟨ma_i (hh - 1), mF, fm_up (fm_up mF 23 (upd (m 23) 8 (ma_i (hh - 1)))) 24 (va_cpy (m 25) (m 24) (320 * ((fi + (hh - 1)) % 8)) 0 320), rfl, ?_, ?_⟩
    · unfold f_X7_undo
      have e23 : mF 23 = m 23 := fo 23 (by decide) (by decide)
      rw [e23, if_neg (by rw [a3]; exact nz)]
      simp only [ma_put, ka_up, e23, a3, s1]
      have v9 : upd (m 23) 8 (ma_i (hh - 1)) 9 = ma_i fi := by unfold upd; rw [if_neg (by decide)]; exact a4
      have v8 : upd (m 23) 8 (ma_i (hh - 1)) 8 = ma_i (hh - 1) := by unfold upd; rw [if_pos rfl]
      have r2 : ma_i (fi + (hh - 1)) - ma_i (fi + (hh - 1)) / (8 : Int32) * (8 : Int32) = ma_i ((fi + (hh - 1)) % 8) := ma_rem (a := fi + (hh - 1)) (k := 8) (by omega) (by decide)
      rw [v9, v8, ma_add, r2, kb_undo_L (by omega), ka_up, v8, ka_un _ (by decide), ka_un _ (by decide), fo 25 (by decide) (by decide), fo 24 (by decide) (by decide)]
    · generalize hZ : fm_up (fm_up mF 23 (upd (m 23) 8 (ma_i (hh - 1)))) 24 (va_cpy (m 25) (m 24) (320 * ((fi + (hh - 1)) % 8)) 0 320) = mZ
      have zo : ∀ k, k ≠ 2 → k ≠ 12 → k ≠ 23 → k ≠ 24 → mZ k = m k := fun k k2 k12 k23 k24 => by rw [← hZ, ka_un _ k24, ka_un _ k23, fo k k2 k12]
      have z2 : ma_c (mZ 2) = ma_c (fun j => m 13 (294 * ((nx + 7) % 8) + j)) := by rw [← hZ, ka_un _ (by decide), ka_un _ (by decide), f2]
      have z12 : mZ 12 = upd (upd (m 12) 2 (ma_i (hh - 1))) 1 (ma_i ((nx + 7) % 8)) := by rw [← hZ, ka_un _ (by decide), ka_un _ (by decide), f12]
      have z24 : ma_w (mZ 24) = ma_w (fun j => m 25 (320 * ((fi + (hh - 1)) % 8) + j)) := by
        rw [← hZ, ka_up]
        refine ma_w_eq (fun j hj => ?_)
        unfold va_cpy
        rw [if_pos (by omega)]
        congr 1
      have z23 : mZ 23 = upd (m 23) 8 (ma_i (hh - 1)) := by rw [← hZ, ka_un _ (by decide), ka_up]
      have z23o : ∀ j, j ≠ 8 → mZ 23 j = m 23 j := fun j h8 => by rw [z23]; unfold upd; rw [if_neg h8]
      obtain ⟨n2, hr2⟩ := hall (hh - 1) (by omega)
      have es : (nx + 8 - hh + (hh - 1)) % 8 = (nx + 7) % 8 := by omega
      rw [es] at hr2
      refine mi_nx (t := t) ⟨⟨n2, ?_⟩, ?_, ?_, ⟨(nx + 7) % 8, hh - 1, fi, ?_, ?_, ?_, ?_, by omega, by omega, fi8, fun i hi => ?_⟩, ?_, ?_⟩
      · rw [z2, z24]; exact hr2
      · unfold mi_save at hsv ⊢
        rw [zo 0 (by decide) (by decide) (by decide) (by decide), z23o 10 (by decide), zo 4 (by decide) (by decide) (by decide) (by decide), zo 26 (by decide) (by decide) (by decide) (by decide)]; exact hsv
      · rw [zo 0 (by decide) (by decide) (by decide) (by decide), z23o 0 (by decide), z23o 1 (by decide)]; exact hrs
      · rw [z12]; unfold upd; rw [if_pos rfl]
      · rw [z12]; unfold upd; rw [if_neg (by decide), if_pos rfl]
      · rw [z23]; unfold upd; rw [if_pos rfl]
      · rw [z23o 9 (by decide)]; exact a4
      · obtain ⟨n3, hr3⟩ := hall i (by omega)
        refine ⟨n3, ?_⟩
        have e3 : ((nx + 7) % 8 + 8 - (hh - 1) + i) % 8 = (nx + 8 - hh + i) % 8 := by omega
        rw [e3, zo 13 (by decide) (by decide) (by decide) (by decide), zo 25 (by decide) (by decide) (by decide) (by decide)]
        exact hr3
      · unfold mi_text at htx ⊢
        rw [zo 18 (by decide) (by decide) (by decide) (by decide), zo 19 (by decide) (by decide) (by decide) (by decide), zo 29 (by decide) (by decide) (by decide) (by decide), z23o 13 (by decide)]; exact htx
      · unfold mi_line at hln ⊢
        rw [zo 20 (by decide) (by decide) (by decide) (by decide), zo 21 (by decide) (by decide) (by decide) (by decide), zo 31 (by decide) (by decide) (by decide) (by decide), z23o 19 (by decide)]; exact hln
