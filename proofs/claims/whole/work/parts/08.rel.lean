/-! the relation, and the calls that only answer -/
/-- bounds of the numbers -/
abbrev te_A (R C P T B : Nat) (ins wr ot wt : Int32) (SR SC SP AR AC AO AB K : Nat) : Prop :=
  R < 6 ∧ C < 12 ∧ P < 8 ∧ T ≤ B ∧ B < 6 ∧ te_b01 ins ∧ te_b01 wr ∧ te_b01 ot ∧ te_b01 wt ∧ SR < 6 ∧ SC < 12 ∧ SP < 8 ∧ AR < 6 ∧ AC < 12 ∧ AO ≤ AB ∧ AB < 6 ∧ K ≤ 8
/-- the cells, and those put aside -/
abbrev te_F (ot : Int32) (ce ad aq : Nat → Int32) : Prop :=
  te_rg ce ∧ te_rg ad ∧ (∀ j, 72 ≤ j → ad j = aq j) ∧ (ot = 0 ∨ aq = ad)
/-- inside of a sequence, from its 91 on -/
abbrev te_H2 (ma mk se bg mq mn : Int32) (nu nq : Nat → Int32) : Prop :=
  ((ma = 0 ∧ bg = 1) ∨ (ma = 1 ∧ bg = 0)) ∧ te_b01 mk ∧ mq = mk ∧ nq = nu ∧ (∃ E : Nat, E ≤ 4 ∧ se = nI E ∧ mn = nI (E + 1)) ∧ ∀ j, j < 4 → ∃ m : Nat, m ≤ 99 ∧ nu j = nI m
abbrev te_H (S : Nat) (ma mk se bg mq mn : Int32) (nu nq : Nat → Int32) : Prop :=
  (∀ j, 4 ≤ j → nu j = nq j) ∧ (S = 0 ∨ S = 1 ∨ (S = 2 ∧ te_H2 ma mk se bg mq mn nu nq))
def te_R (u : SX) (v : SY) : Prop :=
  ∃ (R C P T B : Nat) (ins wr ot wt : Int32) (SR SC SP AR AC AO AB K S : Nat) (ma mk se bg mq mn : Int32) (ce ad aq sh kp nu nq : Nat → Int32),
    u = ((nI R), (nI C), (nI P), (nI T), (nI B), ins, wr, ot, wt, (nI SR), (nI SC), (nI SP), (nI AR), (nI AC), (nI AO), (nI AB), (nI K), (nI S), ma, mk, se, ce, ad, sh, kp, nu) ∧ v = ((nI R), (nI C), (nI P), (nI T), (nI B), ins, wr, ot, wt, (nI SR), (nI SC), (nI SP), (nI AR), (nI AC), (nI AO), (nI AB), (nI K), (nI S), bg, mq, mn, ce, sh, aq, kp, nq) ∧ te_A R C P T B ins wr ot wt SR SC SP AR AC AO AB K ∧ te_F ot ce ad aq ∧ te_H S ma mk se bg mq mn nu nq
theorem te_mk {R C P T B : Nat} {ins wr ot wt : Int32} {SR SC SP AR AC AO AB K S : Nat} {ma mk se bg mq mn : Int32} {ce ad aq sh kp nu nq : Nat → Int32} (hA : te_A R C P T B ins wr ot wt SR SC SP AR AC AO AB K) (hF : te_F ot ce ad aq) (hH : te_H S ma mk se bg mq mn nu nq) : te_R ((nI R), (nI C), (nI P), (nI T), (nI B), ins, wr, ot, wt, (nI SR), (nI SC), (nI SP), (nI AR), (nI AC), (nI AO), (nI AB), (nI K), (nI S), ma, mk, se, ce, ad, sh, kp, nu) ((nI R), (nI C), (nI P), (nI T), (nI B), ins, wr, ot, wt, (nI SR), (nI SC), (nI SP), (nI AR), (nI AC), (nI AO), (nI AB), (nI K), (nI S), bg, mq, mn, ce, sh, aq, kp, nq) := by
  unfold te_R
  exact ⟨R, C, P, T, B, ins, wr, ot, wt, SR, SC, SP, AR, AC, AO, AB, K, S, ma, mk, se, bg, mq, mn, ce, ad, aq, sh, kp, nu, nq, rfl, rfl, hA, hF, hH⟩
def i_Rel (k : Nat) (u : SX) (v : SY) : Prop := te_R u v
theorem i_up {k : Nat} {u : SX} {v : SY} (h : i_Rel k u v) : i_Rel (k + 3) u v := h
theorem i_vc0 : wpX_init (fun u => wpY_init (fun v => i_Rel 0 u v)) := by
  refine te_xinit ?_
  refine te_yinit ?_
  refine te_mk (R := 0) (C := 0) (P := 0) (T := 0) (B := 5) (SR := 0) (SC := 0) (SP := 0) (AR := 0) (AC := 0) (AO := 0) (AB := 0) (K := 0) (S := 0) ?_ ?_ ?_
  · exact ⟨by omega, by omega, by omega, by omega, by omega, te_0, te_1, te_0, te_0, by omega, by omega, by omega, by omega, by omega, by omega, by omega, by omega⟩
  · exact ⟨te_rgCl te_rg0 _ _, te_rg0, fun _ _ => rfl, Or.inl rfl⟩
  · exact ⟨fun _ _ => rfl, Or.inl rfl⟩
/-- either outside of the screen, for both, or at a row and a column -/
theorem te_on (x y : Int32) : (∀ (pX : Int32 → Prop), pX 0 → wpX_onScreen pX x y) ∧ (∀ (pY : Int32 → Prop) (w : SY), pY 0 → wpY_is pY w x y) ∨ (∃ a b : Nat, a < 6 ∧ b < 12 ∧ x = nI a ∧ y = nI b) ∧ (∀ (pX : Int32 → Prop), pX 1 → wpX_onScreen pX x y) ∧ (∀ (pY : Int32 → Prop) (w : SY), pY 1 → wpY_is pY w x y) := by
  by_cases h1 : x < 0
  · exact Or.inl ⟨fun _ h => br_t h1 h, fun _ (w1, w2, w3, w4, w5, w6, w7, w8, w9, w10, w11, w12, w13, w14, w15, w16, w17, w18, w19, w20, w21, w22, w23, w24, w25, w26) h => br_t h1 h⟩
  by_cases h2 : 5 < x
  · exact Or.inl ⟨fun _ h => br_f h1 (br_t h2 h), fun _ (w1, w2, w3, w4, w5, w6, w7, w8, w9, w10, w11, w12, w13, w14, w15, w16, w17, w18, w19, w20, w21, w22, w23, w24, w25, w26) h => br_f h1 (br_t h2 h)⟩
  by_cases h3 : y < 0
  · exact Or.inl ⟨fun _ h => br_f h1 (br_f h2 (br_t h3 h)), fun _ (w1, w2, w3, w4, w5, w6, w7, w8, w9, w10, w11, w12, w13, w14, w15, w16, w17, w18, w19, w20, w21, w22, w23, w24, w25, w26) h => br_f h1 (br_f h2 (br_t h3 h))⟩
  by_cases h4 : 11 < y
  · exact Or.inl ⟨fun _ h => br_f h1 (br_f h2 (br_f h3 (br_t h4 h))), fun _ (w1, w2, w3, w4, w5, w6, w7, w8, w9, w10, w11, w12, w13, w14, w15, w16, w17, w18, w19, w20, w21, w22, w23, w24, w25, w26) h => br_f h1 (br_f h2 (br_f h3 (br_t h4 h)))⟩
  obtain ⟨a, ha, rfl⟩ := nI_of2 (n := 5) (M := 5) (by decide) h1 (Int32.not_lt.mp h2)
  obtain ⟨b, hb, rfl⟩ := nI_of2 (n := 11) (M := 11) (by decide) h3 (Int32.not_lt.mp h4)
  exact Or.inr ⟨⟨a, b, by omega, by omega, rfl, rfl⟩, fun _ h => br_f h1 (br_f h2 (br_f h3 (br_f h4 h))), fun _ (w1, w2, w3, w4, w5, w6, w7, w8, w9, w10, w11, w12, w13, w14, w15, w16, w17, w18, w19, w20, w21, w22, w23, w24, w25, w26) h => br_f h1 (br_f h2 (br_f h3 (br_f h4 h)))⟩
theorem i_vc_sign {k : Nat} {u : SX} {v : SY} (I : i_Rel k u v) (hk : k + 3 ≤ 1536) (v1 : Int32) (v2 : Int32) : wpX_sign (fun r => wpY_sign (fun r' => r' = r ∧ i_Rel (k + 3) u v) v v1 v2) u v1 v2 := by
  have J : i_Rel (k + 3) u v := I
  obtain ⟨R, C, P, T, B, ins, wr, ot, wt, SR, SC, SP, AR, AC, AO, AB, K, S, ma, mk, se, bg, mq, mn, ce, ad, aq, sh, kp, nu, nq, rfl, rfl, hA, hF, hH⟩ := I
  unfold wpX_sign wpY_sign
  rcases te_on v1 v2 with ⟨hX, hY⟩ | ⟨⟨a, b, ha, hb, rfl, rfl⟩, hX, hY⟩
  · exact hX _ (br_t rfl (hY _ _ (br_t rfl ⟨rfl, J⟩)))
  · refine hX _ (br_f te_10 ⟨?_, ?_⟩)
    · rw [te_ix]
      exact vp_in_nI (by omega) (by omega)
    · refine hY _ _ (br_f te_10 ⟨?_, by decide, ?_, J⟩)
      · rw [te_iy]
        exact vp_in_nI (by omega) (by omega)
      · rw [te_ix, te_iy]
        exact te_keepRow hF.1 _
theorem i_vc_style {k : Nat} {u : SX} {v : SY} (I : i_Rel k u v) (hk : k + 3 ≤ 1536) (v1 : Int32) (v2 : Int32) : wpX_style (fun r => wpY_style (fun r' => r' = r ∧ i_Rel (k + 3) u v) v v1 v2) u v1 v2 := by
  have J : i_Rel (k + 3) u v := I
  obtain ⟨R, C, P, T, B, ins, wr, ot, wt, SR, SC, SP, AR, AC, AO, AB, K, S, ma, mk, se, bg, mq, mn, ce, ad, aq, sh, kp, nu, nq, rfl, rfl, hA, hF, hH⟩ := I
  unfold wpX_style wpY_style
  rcases te_on v1 v2 with ⟨hX, hY⟩ | ⟨⟨a, b, ha, hb, rfl, rfl⟩, hX, hY⟩
  · exact hX _ (br_t rfl (hY _ _ (br_t rfl ⟨rfl, J⟩)))
  · refine hX _ (br_f te_10 ⟨?_, by decide, ?_⟩)
    · rw [te_ix]
      exact vp_in_nI (by omega) (by omega)
    · refine hY _ _ (br_f te_10 ⟨?_, by decide, ?_, J⟩)
      · rw [te_iy]
        exact vp_in_nI (by omega) (by omega)
      · rw [te_ix, te_iy]
theorem i_vc_shown {k : Nat} {u : SX} {v : SY} (I : i_Rel k u v) (hk : k + 3 ≤ 1536) (v1 : Int32) (v2 : Int32) : wpX_shown (fun r => wpY_shown (fun r' => r' = r ∧ i_Rel (k + 3) u v) v v1 v2) u v1 v2 := by
  have J : i_Rel (k + 3) u v := I
  obtain ⟨R, C, P, T, B, ins, wr, ot, wt, SR, SC, SP, AR, AC, AO, AB, K, S, ma, mk, se, bg, mq, mn, ce, ad, aq, sh, kp, nu, nq, rfl, rfl, hA, hF, hH⟩ := I
  unfold wpX_shown wpY_shown
  rcases te_on v1 v2 with ⟨hX, hY⟩ | ⟨⟨a, b, ha, hb, rfl, rfl⟩, hX, hY⟩
  · exact hX _ (br_t rfl (hY _ _ (br_t rfl ⟨rfl, J⟩)))
  · refine hX _ (br_f te_10 ⟨?_, ?_⟩)
    · rw [te_ix]
      exact vp_in_nI (by omega) (by omega)
    · refine hY _ _ (br_f te_10 ⟨?_, ?_, J⟩)
      · rw [te_iy]
        exact vp_in_nI (by omega) (by omega)
      · rw [te_ix, te_iy]
theorem i_vc_row {k : Nat} {u : SX} {v : SY} (I : i_Rel k u v) (hk : k + 3 ≤ 1536) : wpX_row (fun r => wpY_row (fun r' => r' = r ∧ i_Rel (k + 3) u v) v) u := by
  have J : i_Rel (k + 3) u v := I
  obtain ⟨R, C, P, T, B, ins, wr, ot, wt, SR, SC, SP, AR, AC, AO, AB, K, S, ma, mk, se, bg, mq, mn, ce, ad, aq, sh, kp, nu, nq, rfl, rfl, hA, hF, hH⟩ := I
  exact ⟨rfl, J⟩
theorem i_vc_column {k : Nat} {u : SX} {v : SY} (I : i_Rel k u v) (hk : k + 3 ≤ 1536) : wpX_column (fun r => wpY_column (fun r' => r' = r ∧ i_Rel (k + 3) u v) v) u := by
  have J : i_Rel (k + 3) u v := I
  obtain ⟨R, C, P, T, B, ins, wr, ot, wt, SR, SC, SP, AR, AC, AO, AB, K, S, ma, mk, se, bg, mq, mn, ce, ad, aq, sh, kp, nu, nq, rfl, rfl, hA, hF, hH⟩ := I
  exact ⟨rfl, J⟩
theorem i_vc_waits {k : Nat} {u : SX} {v : SY} (I : i_Rel k u v) (hk : k + 3 ≤ 1536) : wpX_waits (fun r => wpY_waits (fun r' => r' = r ∧ i_Rel (k + 3) u v) v) u := by
  have J : i_Rel (k + 3) u v := I
  obtain ⟨R, C, P, T, B, ins, wr, ot, wt, SR, SC, SP, AR, AC, AO, AB, K, S, ma, mk, se, bg, mq, mn, ce, ad, aq, sh, kp, nu, nq, rfl, rfl, hA, hF, hH⟩ := I
  obtain ⟨hR, hC, hP, hTB, hB, hin, hwr, hot, hwt, hs⟩ := hA
  exact And.intro (te_nb hwt) (And.intro (te_nb hwt) ⟨rfl, J⟩)
theorem i_vc_pen {k : Nat} {u : SX} {v : SY} (I : i_Rel k u v) (hk : k + 3 ≤ 1536) : wpX_pen (fun r => wpY_pen (fun r' => r' = r ∧ i_Rel (k + 3) u v) v) u := by
  have J : i_Rel (k + 3) u v := I
  obtain ⟨R, C, P, T, B, ins, wr, ot, wt, SR, SC, SP, AR, AC, AO, AB, K, S, ma, mk, se, bg, mq, mn, ce, ad, aq, sh, kp, nu, nq, rfl, rfl, hA, hF, hH⟩ := I
  exact ⟨rfl, J⟩
theorem i_vc_region {k : Nat} {u : SX} {v : SY} (I : i_Rel k u v) (hk : k + 3 ≤ 1536) : wpX_region (fun r => wpY_region (fun r' => r' = r ∧ i_Rel (k + 3) u v) v) u := by
  have J : i_Rel (k + 3) u v := I
  obtain ⟨R, C, P, T, B, ins, wr, ot, wt, SR, SC, SP, AR, AC, AO, AB, K, S, ma, mk, se, bg, mq, mn, ce, ad, aq, sh, kp, nu, nq, rfl, rfl, hA, hF, hH⟩ := I
  exact ⟨rfl, J⟩
theorem i_vc_modes {k : Nat} {u : SX} {v : SY} (I : i_Rel k u v) (hk : k + 3 ≤ 1536) : wpX_modes (fun r => wpY_modes (fun r' => r' = r ∧ i_Rel (k + 3) u v) v) u := by
  have J : i_Rel (k + 3) u v := I
  obtain ⟨R, C, P, T, B, ins, wr, ot, wt, SR, SC, SP, AR, AC, AO, AB, K, S, ma, mk, se, bg, mq, mn, ce, ad, aq, sh, kp, nu, nq, rfl, rfl, hA, hF, hH⟩ := I
  exact br_c (fun h1 => br_c (fun h2 => br_c (fun h3 => br_t h1 (br_t h2 (br_t h3 ⟨rfl, J⟩))) (fun h3 => br_t h1 (br_t h2 (br_f h3 ⟨rfl, J⟩)))) (fun h2 => br_c (fun h3 => br_t h1 (br_f h2 (br_t h3 ⟨rfl, J⟩))) (fun h3 => br_t h1 (br_f h2 (br_f h3 ⟨rfl, J⟩))))) (fun h1 => br_c (fun h2 => br_c (fun h3 => br_f h1 (br_t h2 (br_t h3 ⟨rfl, J⟩))) (fun h3 => br_f h1 (br_t h2 (br_f h3 ⟨rfl, J⟩)))) (fun h2 => br_c (fun h3 => br_f h1 (br_f h2 (br_t h3 ⟨rfl, J⟩))) (fun h3 => br_f h1 (br_f h2 (br_f h3 ⟨rfl, J⟩)))))
theorem i_vc_sequence {k : Nat} {u : SX} {v : SY} (I : i_Rel k u v) (hk : k + 3 ≤ 1536) : wpX_sequence (fun r => wpY_sequence (fun r' => r' = r ∧ i_Rel (k + 3) u v) v) u := by
  have J : i_Rel (k + 3) u v := I
  obtain ⟨R, C, P, T, B, ins, wr, ot, wt, SR, SC, SP, AR, AC, AO, AB, K, S, ma, mk, se, bg, mq, mn, ce, ad, aq, sh, kp, nu, nq, rfl, rfl, hA, hF, hH⟩ := I
  exact ⟨rfl, J⟩
theorem i_vc_keptRows {k : Nat} {u : SX} {v : SY} (I : i_Rel k u v) (hk : k + 3 ≤ 1536) : wpX_keptRows (fun r => wpY_keptRows (fun r' => r' = r ∧ i_Rel (k + 3) u v) v) u := by
  have J : i_Rel (k + 3) u v := I
  obtain ⟨R, C, P, T, B, ins, wr, ot, wt, SR, SC, SP, AR, AC, AO, AB, K, S, ma, mk, se, bg, mq, mn, ce, ad, aq, sh, kp, nu, nq, rfl, rfl, hA, hF, hH⟩ := I
  exact ⟨rfl, J⟩
theorem i_vc_kept {k : Nat} {u : SX} {v : SY} (I : i_Rel k u v) (hk : k + 3 ≤ 1536) (v1 : Int32) (v2 : Int32) : wpX_kept (fun r => wpY_kept (fun r' => r' = r ∧ i_Rel (k + 3) u v) v v1 v2) u v1 v2 := by
  have J : i_Rel (k + 3) u v := I
  obtain ⟨R, C, P, T, B, ins, wr, ot, wt, SR, SC, SP, AR, AC, AO, AB, K, S, ma, mk, se, bg, mq, mn, ce, ad, aq, sh, kp, nu, nq, rfl, rfl, hA, hF, hH⟩ := I
  obtain ⟨hR, hC, hP, hTB, hB, hin, hwr, hot, hwt, hsr, hsc, hsp, har, hac, hao, hab, hK⟩ := hA
  unfold wpX_kept wpY_kept
  by_cases h1 : v1 < 0
  · exact br_t h1 (br_t h1 ⟨rfl, J⟩)
  by_cases h2 : nI K ≤ v1
  · exact br_f h1 (br_t h2 (br_f h1 (br_t h2 ⟨rfl, J⟩)))
  by_cases h3 : v2 < 0
  · exact br_f h1 (br_f h2 (br_t h3 (br_f h1 (br_f h2 (br_t h3 ⟨rfl, J⟩)))))
  by_cases h4 : v2 ≤ 11
  · have h4' : ¬ 11 < v2 := Int32.not_lt.mpr h4
    obtain ⟨a, ha, rfl⟩ := nI_of h1
    have hak : a < K := by
      by_cases z : a < K
      · exact z
      · exact absurd (nI_le (by omega) ha) h2
    obtain ⟨b, hb, rfl⟩ := nI_of2 (n := 11) (M := 11) (by decide) h3 h4
    refine br_f h1 (br_f h2 (br_f h3 (br_t h4 ⟨?_, ?_⟩)))
    · rw [te_ix]
      exact vp_in_nI (by omega) (by omega)
    · refine br_f h1 (br_f h2 (br_f h3 (br_f h4' ⟨?_, ?_, J⟩)))
      · rw [te_iy]
        exact vp_in_nI (by omega) (by omega)
      · rw [te_ix, te_iy]
  · have h4' : 11 < v2 := Int32.not_le.mp h4
    exact br_f h1 (br_f h2 (br_f h3 (br_f h4 (br_f h1 (br_f h2 (br_f h3 (br_t h4' ⟨rfl, J⟩)))))))
theorem i_vc_refresh {k : Nat} {u : SX} {v : SY} (I : i_Rel k u v) (hk : k + 3 ≤ 1536) : wpX_refresh (fun r u' => wpY_refresh (fun r' v' => r' = r ∧ i_Rel (k + 3) u' v') v) u := by
  obtain ⟨R, C, P, T, B, ins, wr, ot, wt, SR, SC, SP, AR, AC, AO, AB, K, S, ma, mk, se, bg, mq, mn, ce, ad, aq, sh, kp, nu, nq, rfl, rfl, hA, hF, hH⟩ := I
  refine te_xrefresh ?_
  refine te_yrefresh ?_
  exact ⟨rfl, te_mk hA hF hH⟩
theorem i_vc_stale {k : Nat} {u : SX} {v : SY} (I : i_Rel k u v) (hk : k + 3 ≤ 1536) : wpX_stale (fun r => wpY_stale (fun r' => r' = r ∧ i_Rel (k + 3) u v) v) u := by
  have J : i_Rel (k + 3) u v := I
  obtain ⟨R, C, P, T, B, ins, wr, ot, wt, SR, SC, SP, AR, AC, AO, AB, K, S, ma, mk, se, bg, mq, mn, ce, ad, aq, sh, kp, nu, nq, rfl, rfl, hA, hF, hH⟩ := I
  refine te_xstale ?_
  refine te_ystale ?_
  exact ⟨rfl, J⟩
