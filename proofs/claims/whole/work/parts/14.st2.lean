/-! a byte inside of a sequence -/
/-- what a byte does: one pair of states, for every post -/
def te_St (u : SX) (v : SY) (b : Int32) : Prop := ∃ u' v', te_R u' v' ∧ te_To (fun t => wpX_take t u b) u' ∧ ∀ post : Int32 → SY → Prop, post 1 v' → wpY_feed post v b
section
variable {R C P T B SR SC SP AR AC AO AB K E : Nat} {ins wr ot wt ma mk se bg mq mn : Int32} {ce ad aq sh kp nu nq : Nat → Int32} {b : Nat}
theorem te_x2in {Z : SX} (h27 : b ≠ 27) (hb : b < 128) (h : te_To (fun t => wpX_takeInside t ((nI R), (nI C), (nI P), (nI T), (nI B), ins, wr, ot, wt, (nI SR), (nI SC), (nI SP), (nI AR), (nI AC), (nI AO), (nI AB), (nI K), (nI 2), ma, mk, se, ce, ad, sh, kp, nu) (nI b)) Z) : te_To (fun t => wpX_take t ((nI R), (nI C), (nI P), (nI T), (nI B), ins, wr, ot, wt, (nI SR), (nI SC), (nI SP), (nI AR), (nI AC), (nI AO), (nI AB), (nI K), (nI 2), ma, mk, se, ce, ad, sh, kp, nu) (nI b)) Z := by
  obtain ⟨z1, z2, z3, z4, z5, z6, z7, z8, z9, z10, z11, z12, z13, z14, z15, z16, z17, z18, z19, z20, z21, z22, z23, z24, z25, z26⟩ := Z
  intro post hz
  refine br_f (te_ne (b := 27) h27 (by omega) (by omega)) (br_f (by decide) (br_t rfl (h _ ?_)))
  exact hz
theorem te_y2in {Z : SY} (hb : b < 128) (h : te_To (fun t => wpY_longSequence t ((nI R), (nI C), (nI P), (nI T), (nI B), ins, wr, ot, wt, (nI SR), (nI SC), (nI SP), (nI AR), (nI AC), (nI AO), (nI AB), (nI K), (nI 2), bg, mq, mn, ce, sh, aq, kp, nq) (nI b)) Z) : ∀ post : Int32 → SY → Prop, post 1 Z → wpY_feed post ((nI R), (nI C), (nI P), (nI T), (nI B), ins, wr, ot, wt, (nI SR), (nI SC), (nI SP), (nI AR), (nI AC), (nI AO), (nI AB), (nI K), (nI 2), bg, mq, mn, ce, sh, aq, kp, nq) (nI b) := by
  obtain ⟨z1, z2, z3, z4, z5, z6, z7, z8, z9, z10, z11, z12, z13, z14, z15, z16, z17, z18, z19, z20, z21, z22, z23, z24, z25, z26⟩ := Z
  intro post hz
  refine br_f (nI_pos (by omega)) (br_t (nI_le (b := 127) (by omega) (by omega)) (br_f (by decide) (br_f (by decide) (h _ ?_))))
  exact hz
/-- neither a digit nor ; nor a first ? -/
theorem te_x2el {Z : SX} (hb : b < 128) (hd : b < 48 ∨ 57 < b) (h59 : b ≠ 59) (h63 : b = 63 → ma = 0) (h : te_To (fun t => wX_takeInside_74 t (nI b) (nI R) (nI C) (nI P) (nI T) (nI B) ins wr ot wt (nI SR) (nI SC) (nI SP) (nI AR) (nI AC) (nI AO) (nI AB) (nI K) (nI 2) 0 mk se ce ad sh kp nu) Z) : te_To (fun t => wpX_takeInside t ((nI R), (nI C), (nI P), (nI T), (nI B), ins, wr, ot, wt, (nI SR), (nI SC), (nI SP), (nI AR), (nI AC), (nI AO), (nI AB), (nI K), (nI 2), ma, mk, se, ce, ad, sh, kp, nu) (nI b)) Z := by
  intro post hz
  have G : wX_takeInside_33 post (nI b) ma (nI R) (nI C) (nI P) (nI T) (nI B) ins wr ot wt (nI SR) (nI SC) (nI SP) (nI AR) (nI AC) (nI AO) (nI AB) (nI K) (nI 2) 0 mk se ce ad sh kp nu := by
    refine br_f (te_ne (b := 59) h59 (by omega) (by omega)) ?_
    by_cases z : b = 63
    · exact br_t (congrArg nI z) (br_t (h63 z) (h _ hz))
    · exact br_f (te_ne (b := 63) z (by omega) (by omega)) (h _ hz)
  by_cases h48 : b < 48
  · exact br_t (nI_lt (b := 48) h48 (by omega)) G
  · exact br_f (nI_nlt (b := 48) (by omega) (by omega)) (br_t (nI_lt (a := 57) (by omega) (by omega)) G)
theorem te_y2el {Z : SY} (hb : b < 128) (hd : b < 48 ∨ 57 < b) (h59 : b ≠ 59) (h63 : b = 63 → ¬ bg = 0) (h : te_To (fun t => wY_longSequence_128 t (nI b) (nI R) (nI C) (nI P) (nI T) (nI B) ins wr ot wt (nI SR) (nI SC) (nI SP) (nI AR) (nI AC) (nI AO) (nI AB) (nI K) (nI 2) bg mq mn ce sh aq kp nq) Z) : te_To (fun t => wpY_longSequence t ((nI R), (nI C), (nI P), (nI T), (nI B), ins, wr, ot, wt, (nI SR), (nI SC), (nI SP), (nI AR), (nI AC), (nI AO), (nI AB), (nI K), (nI 2), bg, mq, mn, ce, sh, aq, kp, nq) (nI b)) Z := by
  intro post hz
  have G : wY_longSequence_16 post (nI b) (nI R) (nI C) (nI P) (nI T) (nI B) ins wr ot wt (nI SR) (nI SC) (nI SP) (nI AR) (nI AC) (nI AO) (nI AB) (nI K) (nI 2) bg mq mn ce sh aq kp nq := by
    refine br_t rfl (br_f (te_ne (b := 59) h59 (by omega) (by omega)) ?_)
    by_cases z : b = 63
    · exact br_t (congrArg nI z) (br_f (h63 z) (h _ hz))
    · exact br_f (te_ne (b := 63) z (by omega) (by omega)) (h _ hz)
  by_cases h48 : b < 48
  · exact br_t (nI_lt (b := 48) h48 (by omega)) G
  · exact br_f (nI_nlt (b := 48) (by omega) (by omega)) (br_t (nI_lt (a := 57) (by omega) (by omega)) G)
/-- a byte that does not fit -/
theorem te_x2o (hb : b < 128) (hl : b < 64 ∨ 126 < b) : te_To (fun t => wX_takeInside_74 t (nI b) (nI R) (nI C) (nI P) (nI T) (nI B) ins wr ot wt (nI SR) (nI SC) (nI SP) (nI AR) (nI AC) (nI AO) (nI AB) (nI K) (nI 2) 0 mk se ce ad sh kp nu) ((nI R), (nI C), (nI P), (nI T), (nI B), ins, wr, ot, wt, (nI SR), (nI SC), (nI SP), (nI AR), (nI AC), (nI AO), (nI AB), (nI K), 0, 0, mk, se, ce, ad, sh, kp, nu) := by
  intro post h
  by_cases h64 : b < 64
  · exact br_t (nI_lt (b := 64) h64 (by omega)) h
  · exact br_f (nI_nlt (b := 64) (by omega) (by omega)) (br_t (nI_lt (a := 126) (by omega) (by omega)) h)
theorem te_y2o (hb : b < 128) (h27 : b ≠ 27) (hl : b < 64 ∨ 126 < b) : te_To (fun t => wY_longSequence_128 t (nI b) (nI R) (nI C) (nI P) (nI T) (nI B) ins wr ot wt (nI SR) (nI SC) (nI SP) (nI AR) (nI AC) (nI AO) (nI AB) (nI K) (nI 2) bg mq mn ce sh aq kp nq) ((nI R), (nI C), (nI P), (nI T), (nI B), ins, wr, ot, wt, (nI SR), (nI SC), (nI SP), (nI AR), (nI AC), (nI AO), (nI AB), (nI K), 0, 1, mq, mn, ce, sh, aq, kp, nq) := by
  intro post h
  refine br_f (te_ne (b := 27) h27 (by omega) (by omega)) ?_
  by_cases h64 : b < 64
  · exact br_t (nI_lt (b := 64) h64 (by omega)) h
  · exact br_f (nI_nlt (b := 64) (by omega) (by omega)) (br_t (nI_lt (a := 126) (by omega) (by omega)) h)
/-- a last byte -/
theorem te_x2p {Z : SX} (h1 : 64 ≤ b) (h2 : b ≤ 126) (h : te_To (fun t => wpX_runPlain t ((nI R), (nI C), (nI P), (nI T), (nI B), ins, wr, ot, wt, (nI SR), (nI SC), (nI SP), (nI AR), (nI AC), (nI AO), (nI AB), (nI K), 0, 0, 0, se, ce, ad, sh, kp, nu) (nI b)) Z) : te_To (fun t => wX_takeInside_74 t (nI b) (nI R) (nI C) (nI P) (nI T) (nI B) ins wr ot wt (nI SR) (nI SC) (nI SP) (nI AR) (nI AC) (nI AO) (nI AB) (nI K) (nI 2) 0 0 se ce ad sh kp nu) Z := by
  obtain ⟨z1, z2, z3, z4, z5, z6, z7, z8, z9, z10, z11, z12, z13, z14, z15, z16, z17, z18, z19, z20, z21, z22, z23, z24, z25, z26⟩ := Z
  intro post hz
  refine br_f (nI_nlt (b := 64) h1 (by omega)) (br_f (nI_nlt (a := 126) h2 (by omega)) (br_t rfl (h _ ?_)))
  exact hz
theorem te_x2m {Z : SX} (h1 : 64 ≤ b) (h2 : b ≤ 126) (h : te_To (fun t => wpX_runMarked t ((nI R), (nI C), (nI P), (nI T), (nI B), ins, wr, ot, wt, (nI SR), (nI SC), (nI SP), (nI AR), (nI AC), (nI AO), (nI AB), (nI K), 0, 0, 1, se, ce, ad, sh, kp, nu) (nI b)) Z) : te_To (fun t => wX_takeInside_74 t (nI b) (nI R) (nI C) (nI P) (nI T) (nI B) ins wr ot wt (nI SR) (nI SC) (nI SP) (nI AR) (nI AC) (nI AO) (nI AB) (nI K) (nI 2) 0 1 se ce ad sh kp nu) Z := by
  obtain ⟨z1, z2, z3, z4, z5, z6, z7, z8, z9, z10, z11, z12, z13, z14, z15, z16, z17, z18, z19, z20, z21, z22, z23, z24, z25, z26⟩ := Z
  intro post hz
  refine br_f (nI_nlt (b := 64) h1 (by omega)) (br_f (nI_nlt (a := 126) h2 (by omega)) (br_f te_10 (h _ ?_)))
  exact hz
theorem te_y2l {w1 w2 w3 w4 w5 w6 w7 w8 w9 w10 w11 w12 w13 w14 w15 w16 w17 w18 w19 w20 w21 : Int32} {w22 w23 w24 w25 w26 : Nat → Int32} (h1 : 64 ≤ b) (h2 : b ≤ 126) (h : te_To (fun t => wpY_last t ((nI R), (nI C), (nI P), (nI T), (nI B), ins, wr, ot, wt, (nI SR), (nI SC), (nI SP), (nI AR), (nI AC), (nI AO), (nI AB), (nI K), 0, bg, mq, mn, ce, sh, aq, kp, nq) (nI b)) (w1, w2, w3, w4, w5, w6, w7, w8, w9, w10, w11, w12, w13, w14, w15, w16, w17, w18, w19, w20, w21, w22, w23, w24, w25, w26)) : te_To (fun t => wY_longSequence_128 t (nI b) (nI R) (nI C) (nI P) (nI T) (nI B) ins wr ot wt (nI SR) (nI SC) (nI SP) (nI AR) (nI AC) (nI AO) (nI AB) (nI K) (nI 2) bg mq mn ce sh aq kp nq) (w1, w2, w3, w4, w5, w6, w7, w8, w9, w10, w11, w12, w13, w14, w15, w16, w17, w18, 1, w20, w21, w22, w23, w24, w25, w26) := by
  intro post hz
  refine br_f (te_ne (b := 27) (by omega) (by omega) (by omega)) ?_
  refine br_f (nI_nlt (b := 64) h1 (by omega)) (br_f (nI_nlt (a := 126) h2 (by omega)) (h _ ?_))
  exact hz
end
section
variable {R C P T B SR SC SP AR AC AO AB K : Nat} {ins wr ot wt ma mk se bg mq mn : Int32} {ce ad aq sh kp nu nq : Nat → Int32} {b : Nat}
/-- a last byte, both sides -/
theorem te_s2l (hA : te_A R C P T B ins wr ot wt SR SC SP AR AC AO AB K) (hF : te_F ot ce ad aq) (hH : te_H2 ma mk se bg mq mn nu nq) (h1 : 64 ≤ b) (h2 : b ≤ 126) : te_St ((nI R), (nI C), (nI P), (nI T), (nI B), ins, wr, ot, wt, (nI SR), (nI SC), (nI SP), (nI AR), (nI AC), (nI AO), (nI AB), (nI K), (nI 2), ma, mk, se, ce, ad, sh, kp, nu) ((nI R), (nI C), (nI P), (nI T), (nI B), ins, wr, ot, wt, (nI SR), (nI SC), (nI SP), (nI AR), (nI AC), (nI AO), (nI AB), (nI K), (nI 2), bg, mq, mn, ce, sh, aq, kp, nq) (nI b) := by
  obtain ⟨hmb, hmk, rfl, rfl, ⟨E, hE, rfl, rfl⟩, hn⟩ := hH
  have hv : ∀ j, j < 4 → (fun j => (nq j).toNatClampNeg) j ≤ 99 ∧ nq j = nI ((fun j => (nq j).toNatClampNeg) j) := by
    intro j hj
    obtain ⟨m, hm, em⟩ := hn j hj
    dsimp only
    rw [em, nI_clamp (by omega)]
    exact ⟨hm, rfl⟩
  have v0 := hv 0 (by omega)
  have v1 := hv 1 (by omega)
  have D : ∃ u' v', te_R0 u' v' ∧ te_To (fun t => wX_takeInside_74 t (nI b) (nI R) (nI C) (nI P) (nI T) (nI B) ins wr ot wt (nI SR) (nI SC) (nI SP) (nI AR) (nI AC) (nI AO) (nI AB) (nI K) (nI 2) 0 mq (nI E) ce ad sh kp nq) u' ∧ te_To (fun t => wpY_last t ((nI R), (nI C), (nI P), (nI T), (nI B), ins, wr, ot, wt, (nI SR), (nI SC), (nI SP), (nI AR), (nI AC), (nI AO), (nI AB), (nI K), 0, bg, mq, (nI (E + 1)), ce, sh, aq, kp, nq) (nI b)) v' := by
    rcases hmk with rfl | rfl
    · obtain ⟨u', v', hR0, hX, hY⟩ := te_run (bg := bg) (sh := sh) (kp := kp) hA hF v0.1 v1.1 v0.2 v1.2 hE hv b (by omega)
      exact ⟨u', v', hR0, te_x2p h1 h2 hX, hY⟩
    · obtain ⟨u', v', hR0, hX, hY⟩ := te_mrk (se := nI E) (bg := bg) (mn := nI (E + 1)) (sh := sh) (kp := kp) hA hF v0.1 v0.2 b (by omega)
      exact ⟨u', v', hR0, te_x2m h1 h2 hX, hY⟩
  obtain ⟨u', v', hR0, hX, hY⟩ := D
  obtain ⟨R', C', P', T', B', ins', wr', ot', wt', SR', SC', SP', AR', AC', AO', AB', K', ma', mk', se', bg', mq', mn', ce', ad', aq', sh', kp', nu', nq', rfl, rfl, hA', hF', hj'⟩ := hR0
  refine ⟨_, _, ?_, te_x2in (by omega) (by omega) (te_x2el (by omega) (by omega) (by omega) (fun z => absurd z (by omega)) hX), te_y2in (by omega) (te_y2el (by omega) (by omega) (by omega) (fun z => absurd z (by omega)) (te_y2l h1 h2 hY))⟩
  exact te_mk (S := 0) hA' hF' ⟨hj', Or.inl rfl⟩
theorem te_st2 (hA : te_A R C P T B ins wr ot wt SR SC SP AR AC AO AB K) (hF : te_F ot ce ad aq) (hH : te_H2 ma mk se bg mq mn nu nq) (hb : b < 128) : te_St ((nI R), (nI C), (nI P), (nI T), (nI B), ins, wr, ot, wt, (nI SR), (nI SC), (nI SP), (nI AR), (nI AC), (nI AO), (nI AB), (nI K), (nI 2), ma, mk, se, ce, ad, sh, kp, nu) ((nI R), (nI C), (nI P), (nI T), (nI B), ins, wr, ot, wt, (nI SR), (nI SC), (nI SP), (nI AR), (nI AC), (nI AO), (nI AB), (nI K), (nI 2), bg, mq, mn, ce, sh, aq, kp, nq) (nI b) := by
  by_cases h27 : b = 27
  · subst h27
    refine ⟨((nI R), (nI C), (nI P), (nI T), (nI B), ins, wr, ot, wt, (nI SR), (nI SC), (nI SP), (nI AR), (nI AC), (nI AO), (nI AB), (nI K), 1, ma, mk, se, ce, ad, sh, kp, nu), ((nI R), (nI C), (nI P), (nI T), (nI B), ins, wr, ot, wt, (nI SR), (nI SC), (nI SP), (nI AR), (nI AC), (nI AO), (nI AB), (nI K), 1, 1, mq, mn, ce, sh, aq, kp, nq), ?_, ?_, ?_⟩
    · exact te_mk (S := 1) hA hF ⟨fun j _ => by rw [hH.2.2.2.1], Or.inr (Or.inl rfl)⟩
    · exact fun post h => br_t rfl h
    · refine te_y2in (by omega) (te_y2el (by omega) (by omega) (by omega) (fun z => absurd z (by omega)) ?_)
      exact fun post h => br_t rfl (br_t (by decide) h)
  by_cases hl : 64 ≤ b ∧ b ≤ 126
  · exact te_s2l hA hF hH hl.1 hl.2
  obtain ⟨hmb, hmk, rfl, rfl, ⟨E, hE, rfl, rfl⟩, hn⟩ := hH
  by_cases hd : 48 ≤ b ∧ b ≤ 57
  · -- a digit
    by_cases h4 : E = 4
    · subst h4
      refine ⟨((nI R), (nI C), (nI P), (nI T), (nI B), ins, wr, ot, wt, (nI SR), (nI SC), (nI SP), (nI AR), (nI AC), (nI AO), (nI AB), (nI K), (nI 2), 0, mq, (nI 4), ce, ad, sh, kp, nq), ((nI R), (nI C), (nI P), (nI T), (nI B), ins, wr, ot, wt, (nI SR), (nI SC), (nI SP), (nI AR), (nI AC), (nI AO), (nI AB), (nI K), (nI 2), 1, mq, (nI 5), ce, sh, aq, kp, nq), ?_, te_x2in h27 hb ?_, te_y2in hb ?_⟩
      · exact te_mk (S := 2) hA hF ⟨fun _ _ => rfl, Or.inr (Or.inr ⟨rfl, Or.inl ⟨rfl, rfl⟩, hmk, rfl, rfl, ⟨4, by omega, rfl, rfl⟩, hn⟩)⟩
      · exact fun post h => br_f (nI_nlt (b := 48) hd.1 (by omega)) (br_f (nI_nlt (a := 57) hd.2 (by omega)) (br_t (by decide) h))
      · exact fun post h => br_f (nI_nlt (b := 48) hd.1 (by omega)) (br_f (nI_nlt (a := 57) hd.2 (by omega)) (br_f te_10 (br_t (by decide) h)))
    · obtain ⟨m, hm, em⟩ := hn E (by omega)
      refine ⟨((nI R), (nI C), (nI P), (nI T), (nI B), ins, wr, ot, wt, (nI SR), (nI SC), (nI SP), (nI AR), (nI AC), (nI AO), (nI AB), (nI K), (nI 2), 0, mq, (nI E), ce, ad, sh, kp, (upd nq E (nI (te_min (m * 10 + (b - 48)) 99)))), ((nI R), (nI C), (nI P), (nI T), (nI B), ins, wr, ot, wt, (nI SR), (nI SC), (nI SP), (nI AR), (nI AC), (nI AO), (nI AB), (nI K), (nI 2), 1, mq, (nI (E + 1)), ce, sh, aq, kp, (upd nq E (nI (te_min (m * 10 + (b - 48)) 99)))), ?_, te_x2in h27 hb ?_, te_y2in hb ?_⟩
      · refine te_mk (S := 2) hA hF ⟨fun _ _ => rfl, Or.inr (Or.inr ⟨rfl, Or.inl ⟨rfl, rfl⟩, hmk, rfl, rfl, ⟨E, hE, rfl, rfl⟩, ?_⟩)⟩
        intro j hj
        by_cases hje : j = E
        · subst hje
          exact ⟨_, te_minLe _ _, pk_us⟩
        · rw [pk_un hje]
          exact hn j hj
      · intro post h
        refine br_f (nI_nlt (b := 48) hd.1 (by omega)) (br_f (nI_nlt (a := 57) hd.2 (by omega)) ?_)
        refine br_f (nI_ge (b := 4) (by omega) (by omega)) ⟨vp_in_nI (by omega) (by omega), ?_⟩
        have e48 : nI b - 48 = nI (b - 48) := pk_sub (b := 48) hd.1
        have e10 : nI m * 10 = nI (m * 10) := pk_mul m 10
        rw [nI_clamp (by omega), em, e48, e10, nI_add]
        refine te_xless (m * 10 + (b - 48)) 99 rfl rfl (by omega) (by omega) ?_
        refine ⟨vp_in_nI (by omega) (by omega), nm_e ?_⟩
        exact h
      · intro post h
        refine br_f (nI_nlt (b := 48) hd.1 (by omega)) (br_f (nI_nlt (a := 57) hd.2 (by omega)) (br_f te_10 (br_f (nI_nlt (a := 4) (by omega) (by omega)) ?_)))
        have e1 : nI (E + 1) - 1 = nI E := nI_pred E
        have e48 : nI (10 * m + b) - 48 = nI (m * 10 + (b - 48)) := (pk_sub (b := 48) (by omega)).trans (congrArg nI (by omega))
        have e10 : 10 * nI m = nI (10 * m) := pk_mul 10 m
        rw [e1, nI_clamp (by omega), em, e10, nI_add, e48]
        refine ⟨vp_in_nI (by omega) (by omega), nm_e ?_⟩
        by_cases h99 : m * 10 + (b - 48) ≤ 99
        · refine br_t (nI_le (b := 99) h99 (by omega)) ⟨vp_in_nI (by omega) (by omega), nm_e ?_⟩
          have e : te_min (m * 10 + (b - 48)) 99 = m * 10 + (b - 48) := by unfold te_min; split <;> omega
          rw [e] at h
          exact h
        · refine br_f (nI_ge (a := 99) (by omega) (by omega)) ⟨vp_in_nI (by omega) (by omega), nm_e ?_⟩
          rw [te_minA (by omega)] at h
          exact h
  by_cases h59 : b = 59
  · subst h59
    refine ⟨((nI R), (nI C), (nI P), (nI T), (nI B), ins, wr, ot, wt, (nI SR), (nI SC), (nI SP), (nI AR), (nI AC), (nI AO), (nI AB), (nI K), (nI 2), 0, mq, (nI (te_min (E + 1) 4)), ce, ad, sh, kp, nq), ((nI R), (nI C), (nI P), (nI T), (nI B), ins, wr, ot, wt, (nI SR), (nI SC), (nI SP), (nI AR), (nI AC), (nI AO), (nI AB), (nI K), (nI 2), 1, mq, (nI (te_min (E + 1) 4 + 1)), ce, sh, aq, kp, nq), ?_, te_x2in h27 hb ?_, te_y2in hb ?_⟩
    · exact te_mk (S := 2) hA hF ⟨fun _ _ => rfl, Or.inr (Or.inr ⟨rfl, Or.inl ⟨rfl, rfl⟩, hmk, rfl, rfl, ⟨_, te_minLe _ _, rfl, rfl⟩, hn⟩)⟩
    · intro post h
      refine br_f (by decide) (br_t (by decide) (br_t rfl ?_))
      refine te_xless (E + 1) 4 (nI_1 E) rfl (by omega) (by omega) ?_
      exact h
    · intro post h
      refine br_f (by decide) (br_t (by decide) (br_t rfl (br_t rfl ?_)))
      by_cases h4 : E = 4
      · subst h4
        rw [te_minA (by omega)] at h
        exact br_t (by decide) h
      · rw [te_minC (by omega)] at h
        exact br_f (nI_ge (b := 5) (by omega) (by omega)) (nm_r (nI_1 (E + 1)) h)
  by_cases h63 : b = 63 ∧ ma = 1
  · obtain ⟨rfl, hm1⟩ := h63
    have hbg : bg = 0 := by
      rcases hmb with z | z
      · exact absurd (z.1.symm.trans hm1) (by decide)
      · exact z.2
    refine ⟨((nI R), (nI C), (nI P), (nI T), (nI B), ins, wr, ot, wt, (nI SR), (nI SC), (nI SP), (nI AR), (nI AC), (nI AO), (nI AB), (nI K), (nI 2), 0, 1, (nI E), ce, ad, sh, kp, nq), ((nI R), (nI C), (nI P), (nI T), (nI B), ins, wr, ot, wt, (nI SR), (nI SC), (nI SP), (nI AR), (nI AC), (nI AO), (nI AB), (nI K), (nI 2), 1, 1, (nI (E + 1)), ce, sh, aq, kp, nq), ?_, te_x2in h27 hb ?_, te_y2in hb ?_⟩
    · exact te_mk (S := 2) hA hF ⟨fun _ _ => rfl, Or.inr (Or.inr ⟨rfl, Or.inl ⟨rfl, rfl⟩, te_1, rfl, rfl, ⟨E, hE, rfl, rfl⟩, hn⟩)⟩
    · intro post h
      subst hm1
      exact br_f (by decide) (br_t (by decide) (br_f (by decide) (br_t rfl (br_f te_10 h))))
    · intro post h
      subst hbg
      exact br_f (by decide) (br_t (by decide) (br_t rfl (br_f (by decide) (br_t rfl (br_t rfl h)))))
  -- a byte that does not fit
  have hm0 : b = 63 → ma = 0 := by
    intro z
    rcases hmb with y | y
    · exact y.1
    · exact absurd ⟨z, y.1⟩ h63
  have hb0 : b = 63 → ¬ bg = 0 := by
    intro z
    rcases hmb with y | y
    · rw [y.2]; exact te_10
    · exact absurd ⟨z, y.1⟩ h63
  refine ⟨_, _, ?_, te_x2in h27 hb (te_x2el hb (by omega) h59 hm0 (te_x2o hb (by omega))), te_y2in hb (te_y2el hb (by omega) h59 hb0 (te_y2o hb h27 (by omega)))⟩
  exact te_mk (S := 0) hA hF ⟨fun _ _ => rfl, Or.inl rfl⟩
end
