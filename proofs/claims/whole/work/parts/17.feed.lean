/-! feed and feedThree -/
theorem te_step {u : SX} {v : SY} (I : te_R u v) (b : Nat) (hb : b < 128) : te_St u v (nI b) := by
  obtain ⟨R, C, P, T, B, ins, wr, ot, wt, SR, SC, SP, AR, AC, AO, AB, K, S, ma, mk, se, bg, mq, mn, ce, ad, aq, sh, kp, nu, nq, rfl, rfl, hA, hF, hj, hS⟩ := I
  rcases hS with rfl | rfl | ⟨rfl, hH⟩
  · exact te_st0 hA hF hj hb
  · exact te_st1 hA hF hj hb
  · exact te_st2 hA hF hH hb
theorem i_vc_feed {k : Nat} {u : SX} {v : SY} (I : i_Rel k u v) (hk : k + 3 ≤ 1536) (v1 : Int32) : wpX_feed (fun r u' => wpY_feed (fun r' v' => r' = r ∧ i_Rel (k + 3) u' v') v v1) u v1 := by
  have J : te_R u v := I
  obtain ⟨R, C, P, T, B, ins, wr, ot, wt, SR, SC, SP, AR, AC, AO, AB, K, S, ma, mk, se, bg, mq, mn, ce, ad, aq, sh, kp, nu, nq, rfl, rfl, hA, hF, hH⟩ := I
  by_cases h0 : v1 < 0
  · exact br_t h0 (br_t h0 ⟨rfl, J⟩)
  by_cases h1 : v1 ≤ 127
  · obtain ⟨b, hb, rfl⟩ := nI_of2 (n := 127) (M := 127) (by decide) h0 h1
    obtain ⟨u', v', hR, hX, hY⟩ := te_step J b (by omega)
    obtain ⟨R', C', P', T', B', ins', wr', ot', wt', SR', SC', SP', AR', AC', AO', AB', K', S', ma', mk', se', bg', mq', mn', ce', ad', aq', sh', kp', nu', nq', rfl, rfl, hA', hF', hH'⟩ := hR
    refine br_f h0 (br_t h1 (hX _ ?_))
    refine hY _ ?_
    exact ⟨rfl, te_mk hA' hF' hH'⟩
  · exact br_f h0 (br_f h1 (br_f h0 (br_f h1 ⟨rfl, J⟩)))
theorem i_vc_feedThree {k : Nat} {u : SX} {v : SY} (I : i_Rel k u v) (hk : k + 3 ≤ 1536) (v1 : Int32) : wpX_feedThree (fun r u' => wpY_feedThree (fun r' v' => r' = r ∧ i_Rel (k + 3) u' v') v v1) u v1 := by
  have J : te_R u v := I
  obtain ⟨R, C, P, T, B, ins, wr, ot, wt, SR, SC, SP, AR, AC, AO, AB, K, S, ma, mk, se, bg, mq, mn, ce, ad, aq, sh, kp, nu, nq, rfl, rfl, hA, hF, hH⟩ := I
  by_cases h0 : v1 < 0
  · exact br_t h0 (br_t h0 ⟨rfl, J⟩)
  by_cases h1 : v1 ≤ 2097151
  · obtain ⟨m, hm, rfl⟩ := nI_of2 (n := 2097151) (M := 2097151) (by decide) h0 h1
    have x1 : nI m &&& 127 = nI (m % 128) := pk_andN (by omega) 7 (by decide)
    have x2 : (nI m >>> ((7 : Int32) &&& 31)) &&& 127 = nI (m / 128 % 128) := by
      rw [pk_shrN (by omega) _ 7 (by decide)]
      exact pk_andN (by omega) 7 (by decide)
    have x3 : nI m >>> ((14 : Int32) &&& 31) = nI (m / 16384) := pk_shrN (by omega) _ 14 (by decide)
    have y1 : nI m - nI m / 128 * 128 = nI (m % 128) := pk_rem (d := 128) (by omega) (by omega) (by omega)
    have y0 : nI m / 128 = nI (m / 128) := pk_div (d := 128) (by omega) (by omega) (by omega)
    have y2 : nI m / 128 - nI m / 128 / 128 * 128 = nI (m / 128 % 128) := by
      rw [y0]
      exact pk_rem (d := 128) (by omega) (by omega) (by omega)
    have y3 : nI m / 16384 = nI (m / 16384) := pk_div (d := 16384) (by omega) (by omega) (by omega)
    obtain ⟨u1, v1, hR1, hX1, hY1⟩ := te_step J (m % 128) (by omega)
    have J1 := hR1
    obtain ⟨R1, C1, P1, T1, B1, ins1, wr1, ot1, wt1, SR1, SC1, SP1, AR1, AC1, AO1, AB1, K1, S1, ma1, mk1, se1, bg1, mq1, mn1, ce1, ad1, aq1, sh1, kp1, nu1, nq1, rfl, rfl, -⟩ := hR1
    obtain ⟨u2, v2, hR2, hX2, hY2⟩ := te_step J1 (m / 128 % 128) (by omega)
    have J2 := hR2
    obtain ⟨R2, C2, P2, T2, B2, ins2, wr2, ot2, wt2, SR2, SC2, SP2, AR2, AC2, AO2, AB2, K2, S2, ma2, mk2, se2, bg2, mq2, mn2, ce2, ad2, aq2, sh2, kp2, nu2, nq2, rfl, rfl, -⟩ := hR2
    obtain ⟨u3, v3, hR3, hX3, hY3⟩ := te_step J2 (m / 16384) (by omega)
    have J3 := hR3
    obtain ⟨R3, C3, P3, T3, B3, ins3, wr3, ot3, wt3, SR3, SC3, SP3, AR3, AC3, AO3, AB3, K3, S3, ma3, mk3, se3, bg3, mq3, mn3, ce3, ad3, aq3, sh3, kp3, nu3, nq3, rfl, rfl, -⟩ := hR3
    unfold wpX_feedThree
    refine br_f h0 (br_t h1 ?_)
    rw [x1, x2, x3]
    refine hX1 _ ?_
    refine hX2 _ ?_
    refine hX3 _ ?_
    refine br_f h0 (br_t h1 ⟨by decide, ?_⟩)
    rw [y1]
    refine hY1 _ ?_
    refine ⟨by decide, by decide, ?_⟩
    rw [y2]
    refine hY2 _ ?_
    refine ⟨by decide, ?_⟩
    rw [y3]
    refine hY3 _ ?_
    exact ⟨rfl, J3⟩
  · exact br_f h0 (br_f h1 (br_f h0 (br_f h1 ⟨rfl, J⟩)))
