/-! both sides at each last byte, with ? -/
section
variable {R C P T B SR SC SP AR AC AO AB K : Nat} {ins wr ot wt se bg mn : Int32} {ce ad aq sh kp nu : Nat → Int32}
theorem te_xm104w {p : Nat} (hp : p ≤ 99) (e0 : nu 0 = nI p) (h7 : p = 7) : te_To (fun t => wpX_runMarked t ((nI R), (nI C), (nI P), (nI T), (nI B), ins, wr, ot, wt, (nI SR), (nI SC), (nI SP), (nI AR), (nI AC), (nI AO), (nI AB), (nI K), 0, 0, 1, se, ce, ad, sh, kp, nu) 104) ((nI R), (nI C), (nI P), (nI T), (nI B), ins, 1, ot, wt, (nI SR), (nI SC), (nI SP), (nI AR), (nI AC), (nI AO), (nI AB), (nI K), 0, 0, 1, se, ce, ad, sh, kp, nu) := by
  intro post h
  have h0 : nu 0 = 7 := e0.trans (congrArg nI h7)
  exact br_t rfl (br_t rfl (br_t h0 (And.intro (te_nb te_1) (And.intro (te_fb te_1) h))))
theorem te_ym104w {p : Nat} (hp : p ≤ 99) (e0 : nu 0 = nI p) (hin : te_b01 ins) (h7 : p = 7) : te_To (fun t => wpY_last t ((nI R), (nI C), (nI P), (nI T), (nI B), ins, wr, ot, wt, (nI SR), (nI SC), (nI SP), (nI AR), (nI AC), (nI AO), (nI AB), (nI K), 0, bg, 1, mn, ce, sh, aq, kp, nu) 104) ((nI R), (nI C), (nI P), (nI T), (nI B), ins, 1, ot, wt, (nI SR), (nI SC), (nI SP), (nI AR), (nI AC), (nI AO), (nI AB), (nI K), 0, bg, 1, mn, ce, sh, aq, kp, nu) := by
  intro post h
  refine nm_r e0 (br_t rfl (br_t rfl (br_f te_10 ?_)))
  exact And.intro (te_nb hin) (And.intro (te_fb hin) (br_f te_10 (br_t (congrArg nI h7) (And.intro (te_nb te_1) (And.intro (te_fb te_1) (br_f te_10 (br_f (te_ne (b := 49) (by omega) (by omega) (by omega)) h)))))))
theorem te_xm104o {p : Nat} (hp : p ≤ 99) (e0 : nu 0 = nI p) (h7 : p ≠ 7) (h49 : p ≠ 49 ∨ ot = 1) : te_To (fun t => wpX_runMarked t ((nI R), (nI C), (nI P), (nI T), (nI B), ins, wr, ot, wt, (nI SR), (nI SC), (nI SP), (nI AR), (nI AC), (nI AO), (nI AB), (nI K), 0, 0, 1, se, ce, ad, sh, kp, nu) 104) ((nI R), (nI C), (nI P), (nI T), (nI B), ins, wr, ot, wt, (nI SR), (nI SC), (nI SP), (nI AR), (nI AC), (nI AO), (nI AB), (nI K), 0, 0, 1, se, ce, ad, sh, kp, nu) := by
  intro post h
  have h0 : ¬ nu 0 = 7 := by rw [e0]; exact te_ne (b := 7) h7 (by omega) (by omega)
  refine br_t rfl (br_t rfl (br_f h0 ?_))
  by_cases z : p = 49
  · exact br_t (e0.trans (congrArg nI z)) (br_t (h49.resolve_left (fun y => y z)).symm h)
  · exact br_f (by rw [e0]; exact te_ne (b := 49) z (by omega) (by omega)) h
theorem te_ym104o {p : Nat} (hp : p ≤ 99) (e0 : nu 0 = nI p) (hin : te_b01 ins) (hwr : te_b01 wr) (h7 : p ≠ 7) (h49 : p ≠ 49 ∨ ot = 1) : te_To (fun t => wpY_last t ((nI R), (nI C), (nI P), (nI T), (nI B), ins, wr, ot, wt, (nI SR), (nI SC), (nI SP), (nI AR), (nI AC), (nI AO), (nI AB), (nI K), 0, bg, 1, mn, ce, sh, aq, kp, nu) 104) ((nI R), (nI C), (nI P), (nI T), (nI B), ins, wr, ot, wt, (nI SR), (nI SC), (nI SP), (nI AR), (nI AC), (nI AO), (nI AB), (nI K), 0, bg, 1, mn, ce, sh, aq, kp, nu) := by
  intro post h
  refine nm_r e0 (br_t rfl (br_t rfl (br_f te_10 ?_)))
  refine And.intro (te_nb hin) (And.intro (te_fb hin) (br_f te_10 (br_f (te_ne (b := 7) h7 (by omega) (by omega)) (And.intro (te_nb hwr) (And.intro (te_fb hwr) (br_f te_10 ?_))))))
  by_cases z : p = 49
  · exact br_t (congrArg nI z) (br_t (h49.resolve_left (fun y => y z)).symm h)
  · exact br_f (te_ne (b := 49) z (by omega) (by omega)) h
theorem te_xm108w {p : Nat} (hp : p ≤ 99) (e0 : nu 0 = nI p) (h7 : p = 7) : te_To (fun t => wpX_runMarked t ((nI R), (nI C), (nI P), (nI T), (nI B), ins, wr, ot, wt, (nI SR), (nI SC), (nI SP), (nI AR), (nI AC), (nI AO), (nI AB), (nI K), 0, 0, 1, se, ce, ad, sh, kp, nu) 108) ((nI R), (nI C), (nI P), (nI T), (nI B), ins, 0, ot, wt, (nI SR), (nI SC), (nI SP), (nI AR), (nI AC), (nI AO), (nI AB), (nI K), 0, 0, 1, se, ce, ad, sh, kp, nu) := by
  intro post h
  have h0 : nu 0 = 7 := e0.trans (congrArg nI h7)
  exact br_f (by decide) (br_t rfl (br_f (by decide) (br_t h0 (And.intro (te_nb te_0) (And.intro (te_fb te_0) h)))))
theorem te_ym108w {p : Nat} (hp : p ≤ 99) (e0 : nu 0 = nI p) (hin : te_b01 ins) (h7 : p = 7) : te_To (fun t => wpY_last t ((nI R), (nI C), (nI P), (nI T), (nI B), ins, wr, ot, wt, (nI SR), (nI SC), (nI SP), (nI AR), (nI AC), (nI AO), (nI AB), (nI K), 0, bg, 1, mn, ce, sh, aq, kp, nu) 108) ((nI R), (nI C), (nI P), (nI T), (nI B), ins, 0, ot, wt, (nI SR), (nI SC), (nI SP), (nI AR), (nI AC), (nI AO), (nI AB), (nI K), 0, bg, 1, mn, ce, sh, aq, kp, nu) := by
  intro post h
  refine nm_r e0 (br_f (by decide) (br_f (by decide) (br_t rfl (br_f te_10 ?_))))
  exact And.intro (te_nb hin) (And.intro (te_fb hin) (br_f te_10 (br_t (congrArg nI h7) (And.intro (te_nb te_0) (And.intro (te_fb te_0) (br_f te_10 (br_f (te_ne (b := 49) (by omega) (by omega) (by omega)) h)))))))
theorem te_xm108o {p : Nat} (hp : p ≤ 99) (e0 : nu 0 = nI p) (h7 : p ≠ 7) (h49 : p ≠ 49 ∨ ot = 0) : te_To (fun t => wpX_runMarked t ((nI R), (nI C), (nI P), (nI T), (nI B), ins, wr, ot, wt, (nI SR), (nI SC), (nI SP), (nI AR), (nI AC), (nI AO), (nI AB), (nI K), 0, 0, 1, se, ce, ad, sh, kp, nu) 108) ((nI R), (nI C), (nI P), (nI T), (nI B), ins, wr, ot, wt, (nI SR), (nI SC), (nI SP), (nI AR), (nI AC), (nI AO), (nI AB), (nI K), 0, 0, 1, se, ce, ad, sh, kp, nu) := by
  intro post h
  have h0 : ¬ nu 0 = 7 := by rw [e0]; exact te_ne (b := 7) h7 (by omega) (by omega)
  refine br_f (by decide) (br_t rfl (br_f (by decide) (br_f h0 ?_)))
  by_cases z : p = 49
  · exact br_t (e0.trans (congrArg nI z)) (br_t (h49.resolve_left (fun y => y z)).symm h)
  · exact br_f (by rw [e0]; exact te_ne (b := 49) z (by omega) (by omega)) h
theorem te_ym108o {p : Nat} (hp : p ≤ 99) (e0 : nu 0 = nI p) (hin : te_b01 ins) (hwr : te_b01 wr) (h7 : p ≠ 7) (h49 : p ≠ 49 ∨ ot = 0) : te_To (fun t => wpY_last t ((nI R), (nI C), (nI P), (nI T), (nI B), ins, wr, ot, wt, (nI SR), (nI SC), (nI SP), (nI AR), (nI AC), (nI AO), (nI AB), (nI K), 0, bg, 1, mn, ce, sh, aq, kp, nu) 108) ((nI R), (nI C), (nI P), (nI T), (nI B), ins, wr, ot, wt, (nI SR), (nI SC), (nI SP), (nI AR), (nI AC), (nI AO), (nI AB), (nI K), 0, bg, 1, mn, ce, sh, aq, kp, nu) := by
  intro post h
  refine nm_r e0 (br_f (by decide) (br_f (by decide) (br_t rfl (br_f te_10 ?_))))
  refine And.intro (te_nb hin) (And.intro (te_fb hin) (br_f te_10 (br_f (te_ne (b := 7) h7 (by omega) (by omega)) (And.intro (te_nb hwr) (And.intro (te_fb hwr) (br_f te_10 ?_))))))
  by_cases z : p = 49
  · exact br_t (congrArg nI z) (br_t (h49.resolve_left (fun y => y z)).symm h)
  · exact br_f (te_ne (b := 49) z (by omega) (by omega)) h
theorem te_xm104x {p : Nat} (hp : p ≤ 99) (e0 : nu 0 = nI p) (h49 : p = 49) (h0 : ot = 0) : te_To (fun t => wpX_runMarked t ((nI R), (nI C), (nI P), (nI T), (nI B), ins, wr, ot, wt, (nI SR), (nI SC), (nI SP), (nI AR), (nI AC), (nI AO), (nI AB), (nI K), 0, 0, 1, se, ce, ad, sh, kp, nu) 104) (0, 0, (nI P), 0, 5, ins, wr, 1, 0, (nI SR), (nI SC), (nI SP), (nI R), (nI C), (nI T), (nI B), (nI K), 0, 0, 1, se, (te_cl ce 0 72), (te_cp ce ad 72), sh, kp, nu) := by
  intro post h
  subst h0
  have h7 : ¬ nu 0 = 7 := by rw [e0]; exact te_ne (b := 7) (by omega) (by omega) (by omega)
  refine br_t rfl (br_t rfl (br_f h7 (br_t (e0.trans (congrArg nI h49)) (br_f te_10 (br_f te_10 ?_)))))
  refine te_xputAside ?_
  exact And.intro (te_nb te_1) (And.intro (te_fb te_1) h)
theorem te_ym104x {p : Nat} (hp : p ≤ 99) (e0 : nu 0 = nI p) (hin : te_b01 ins) (hwr : te_b01 wr) (h49 : p = 49) (h0 : ot = 0) : te_To (fun t => wpY_last t ((nI R), (nI C), (nI P), (nI T), (nI B), ins, wr, ot, wt, (nI SR), (nI SC), (nI SP), (nI AR), (nI AC), (nI AO), (nI AB), (nI K), 0, bg, 1, mn, ce, sh, aq, kp, nu) 104) (0, 0, (nI P), 0, 5, ins, wr, 1, 0, (nI SR), (nI SC), (nI SP), (nI R), (nI C), (nI T), (nI B), (nI K), 0, bg, 1, mn, (te_cl ce 0 72), sh, (te_cp ce aq 72), kp, nu) := by
  intro post h
  subst h0
  refine nm_r e0 (br_t rfl (br_t rfl (br_f te_10 ?_)))
  refine And.intro (te_nb hin) (And.intro (te_fb hin) (br_f te_10 (br_f (te_ne (b := 7) (by omega) (by omega) (by omega)) (And.intro (te_nb hwr) (And.intro (te_fb hwr) (br_f te_10 (br_t (congrArg nI h49) (br_f te_10 ?_))))))))
  refine te_yexchange1 ?_
  exact h
theorem te_xm108x {p : Nat} (hp : p ≤ 99) (e0 : nu 0 = nI p) (h49 : p = 49) (h0 : ot = 1) : te_To (fun t => wpX_runMarked t ((nI R), (nI C), (nI P), (nI T), (nI B), ins, wr, ot, wt, (nI SR), (nI SC), (nI SP), (nI AR), (nI AC), (nI AO), (nI AB), (nI K), 0, 0, 1, se, ce, ad, sh, kp, nu) 108) ((nI AR), (nI AC), (nI P), (nI AO), (nI AB), ins, wr, 0, 0, (nI SR), (nI SC), (nI SP), (nI AR), (nI AC), (nI AO), (nI AB), (nI K), 0, 0, 1, se, (te_cp ad ce 72), ad, sh, kp, nu) := by
  intro post h
  subst h0
  have h7 : ¬ nu 0 = 7 := by rw [e0]; exact te_ne (b := 7) (by omega) (by omega) (by omega)
  refine br_f (by decide) (br_t rfl (br_f (by decide) (br_f h7 (br_t (e0.trans (congrArg nI h49)) (br_f (by decide) (br_t rfl ?_))))))
  refine te_xbringBack ?_
  exact And.intro (te_nb te_0) (And.intro (te_fb te_0) h)
theorem te_ym108x {p : Nat} (hp : p ≤ 99) (e0 : nu 0 = nI p) (hin : te_b01 ins) (hwr : te_b01 wr) (h49 : p = 49) (h0 : ot = 1) : te_To (fun t => wpY_last t ((nI R), (nI C), (nI P), (nI T), (nI B), ins, wr, ot, wt, (nI SR), (nI SC), (nI SP), (nI AR), (nI AC), (nI AO), (nI AB), (nI K), 0, bg, 1, mn, ce, sh, aq, kp, nu) 108) ((nI AR), (nI AC), (nI P), (nI AO), (nI AB), ins, wr, 0, 0, (nI SR), (nI SC), (nI SP), (nI AR), (nI AC), (nI AO), (nI AB), (nI K), 0, bg, 1, mn, (te_cp aq ce 72), sh, (te_cp ce aq 72), kp, nu) := by
  intro post h
  subst h0
  refine nm_r e0 (br_f (by decide) (br_f (by decide) (br_t rfl (br_f te_10 ?_))))
  refine And.intro (te_nb hin) (And.intro (te_fb hin) (br_f te_10 (br_f (te_ne (b := 7) (by omega) (by omega) (by omega)) (And.intro (te_nb hwr) (And.intro (te_fb hwr) (br_f te_10 (br_t (congrArg nI h49) (br_f (by decide) ?_))))))))
  refine te_yexchange0 ?_
  exact h
theorem te_xmN {x : Int32} (h104 : ¬ x = 104) (h108 : ¬ x = 108) : te_To (fun t => wpX_runMarked t ((nI R), (nI C), (nI P), (nI T), (nI B), ins, wr, ot, wt, (nI SR), (nI SC), (nI SP), (nI AR), (nI AC), (nI AO), (nI AB), (nI K), 0, 0, 1, se, ce, ad, sh, kp, nu) x) ((nI R), (nI C), (nI P), (nI T), (nI B), ins, wr, ot, wt, (nI SR), (nI SC), (nI SP), (nI AR), (nI AC), (nI AO), (nI AB), (nI K), 0, 0, 1, se, ce, ad, sh, kp, nu) := fun post h => br_f h104 (br_f h108 h)
theorem te_ymN {x : Int32} {p : Nat} (hp : p ≤ 99) (e0 : nu 0 = nI p) (h104 : ¬ x = 104) (h108 : ¬ x = 108) : te_To (fun t => wpY_last t ((nI R), (nI C), (nI P), (nI T), (nI B), ins, wr, ot, wt, (nI SR), (nI SC), (nI SP), (nI AR), (nI AC), (nI AO), (nI AB), (nI K), 0, bg, 1, mn, ce, sh, aq, kp, nu) x) ((nI R), (nI C), (nI P), (nI T), (nI B), ins, wr, ot, wt, (nI SR), (nI SC), (nI SP), (nI AR), (nI AC), (nI AO), (nI AB), (nI K), 0, bg, 1, mn, ce, sh, aq, kp, nu) := by
  intro post h
  refine nm_r e0 (br_f h104 (br_f h104 (br_f h108 ?_)))
  by_cases h109 : x = 109
  · exact br_t h109 (br_f te_10 (br_f te_10 h))
  · exact br_f h109 (br_f te_10 h)
theorem te_mrk104 (hA : te_A R C P T B ins wr ot wt SR SC SP AR AC AO AB K) (hF : te_F ot ce ad aq) {p : Nat} (hp : p ≤ 99) (e0 : nu 0 = nI p) : ∃ u' v', te_R0 u' v' ∧ te_To (fun t => wpX_runMarked t ((nI R), (nI C), (nI P), (nI T), (nI B), ins, wr, ot, wt, (nI SR), (nI SC), (nI SP), (nI AR), (nI AC), (nI AO), (nI AB), (nI K), 0, 0, 1, se, ce, ad, sh, kp, nu) 104) u' ∧ te_To (fun t => wpY_last t ((nI R), (nI C), (nI P), (nI T), (nI B), ins, wr, ot, wt, (nI SR), (nI SC), (nI SP), (nI AR), (nI AC), (nI AO), (nI AB), (nI K), 0, bg, 1, mn, ce, sh, aq, kp, nu) 104) v' := by
  obtain ⟨hR, hC, hP, hTB, hB, hin, hwr, hot, hwt, hsr, hsc, hsp, har, hac, hao, hab, hK⟩ := hA
  obtain ⟨hc, had, hjj, hoo⟩ := hF
  by_cases h7 : p = 7
  · refine ⟨_, _, ?_, te_xm104w hp e0 h7, te_ym104w hp e0 hin h7⟩
    exact te_mk0 ⟨hR, hC, hP, hTB, hB, hin, te_1, hot, hwt, hsr, hsc, hsp, har, hac, hao, hab, hK⟩ ⟨hc, had, hjj, hoo⟩ (fun _ _ => rfl)
  by_cases hx : p = 49 ∧ ot = 0
  · refine ⟨_, _, ?_, te_xm104x hp e0 hx.1 hx.2, te_ym104x hp e0 hin hwr hx.1 hx.2⟩
    exact te_mk0 (R := 0) (C := 0) (T := 0) (B := 5) ⟨(by omega), (by omega), hP, (by omega), (by omega), hin, hwr, te_1, te_0, hsr, hsc, hsp, hR, hC, hTB, hB, hK⟩ ⟨te_rgCl hc _ _, te_rgCp hc had _, fun j hj => by rw [te_cpHi ce ad hj, te_cpHi ce aq hj]; exact hjj j hj, Or.inr (te_cpEq ce hjj)⟩ (fun _ _ => rfl)
  · have h49 : p ≠ 49 ∨ ot = 1 := by
      by_cases z : p = 49
      · exact Or.inr (te_b1 hot (fun y => hx ⟨z, y⟩))
      · exact Or.inl z
    refine ⟨_, _, ?_, te_xm104o hp e0 h7 h49, te_ym104o hp e0 hin hwr h7 h49⟩
    exact te_mk0 ⟨hR, hC, hP, hTB, hB, hin, hwr, hot, hwt, hsr, hsc, hsp, har, hac, hao, hab, hK⟩ ⟨hc, had, hjj, hoo⟩ (fun _ _ => rfl)
theorem te_mrk108 (hA : te_A R C P T B ins wr ot wt SR SC SP AR AC AO AB K) (hF : te_F ot ce ad aq) {p : Nat} (hp : p ≤ 99) (e0 : nu 0 = nI p) : ∃ u' v', te_R0 u' v' ∧ te_To (fun t => wpX_runMarked t ((nI R), (nI C), (nI P), (nI T), (nI B), ins, wr, ot, wt, (nI SR), (nI SC), (nI SP), (nI AR), (nI AC), (nI AO), (nI AB), (nI K), 0, 0, 1, se, ce, ad, sh, kp, nu) 108) u' ∧ te_To (fun t => wpY_last t ((nI R), (nI C), (nI P), (nI T), (nI B), ins, wr, ot, wt, (nI SR), (nI SC), (nI SP), (nI AR), (nI AC), (nI AO), (nI AB), (nI K), 0, bg, 1, mn, ce, sh, aq, kp, nu) 108) v' := by
  obtain ⟨hR, hC, hP, hTB, hB, hin, hwr, hot, hwt, hsr, hsc, hsp, har, hac, hao, hab, hK⟩ := hA
  obtain ⟨hc, had, hjj, hoo⟩ := hF
  by_cases h7 : p = 7
  · refine ⟨_, _, ?_, te_xm108w hp e0 h7, te_ym108w hp e0 hin h7⟩
    exact te_mk0 ⟨hR, hC, hP, hTB, hB, hin, te_0, hot, hwt, hsr, hsc, hsp, har, hac, hao, hab, hK⟩ ⟨hc, had, hjj, hoo⟩ (fun _ _ => rfl)
  by_cases hx : p = 49 ∧ ot = 1
  · obtain rfl : aq = ad := hoo.resolve_left (fun z => te_10 (hx.2.symm.trans z))
    refine ⟨_, _, ?_, te_xm108x hp e0 hx.1 hx.2, te_ym108x hp e0 hin hwr hx.1 hx.2⟩
    exact te_mk0 ⟨har, hac, hP, hao, hab, hin, hwr, te_0, te_0, hsr, hsc, hsp, har, hac, hao, hab, hK⟩ ⟨te_rgCp had hc _, had, fun j hj => (te_cpHi ce aq hj).symm, Or.inl rfl⟩ (fun _ _ => rfl)
  · have h49 : p ≠ 49 ∨ ot = 0 := by
      by_cases z : p = 49
      · rcases hot with h | h
        · exact Or.inr h
        · exact absurd ⟨z, h⟩ hx
      · exact Or.inl z
    refine ⟨_, _, ?_, te_xm108o hp e0 h7 h49, te_ym108o hp e0 hin hwr h7 h49⟩
    exact te_mk0 ⟨hR, hC, hP, hTB, hB, hin, hwr, hot, hwt, hsr, hsc, hsp, har, hac, hao, hab, hK⟩ ⟨hc, had, hjj, hoo⟩ (fun _ _ => rfl)
theorem te_mrk (hA : te_A R C P T B ins wr ot wt SR SC SP AR AC AO AB K) (hF : te_F ot ce ad aq) {p : Nat} (hp : p ≤ 99) (e0 : nu 0 = nI p) (b : Nat) (hb : b < 128) : ∃ u' v', te_R0 u' v' ∧ te_To (fun t => wpX_runMarked t ((nI R), (nI C), (nI P), (nI T), (nI B), ins, wr, ot, wt, (nI SR), (nI SC), (nI SP), (nI AR), (nI AC), (nI AO), (nI AB), (nI K), 0, 0, 1, se, ce, ad, sh, kp, nu) (nI b)) u' ∧ te_To (fun t => wpY_last t ((nI R), (nI C), (nI P), (nI T), (nI B), ins, wr, ot, wt, (nI SR), (nI SC), (nI SP), (nI AR), (nI AC), (nI AO), (nI AB), (nI K), 0, bg, 1, mn, ce, sh, aq, kp, nu) (nI b)) v' := by
  by_cases h104 : b = 104
  · subst h104
    exact te_mrk104 hA hF hp e0
  by_cases h108 : b = 108
  · subst h108
    exact te_mrk108 hA hF hp e0
  have g104 : ¬ nI b = 104 := te_ne (b := 104) h104 (by omega) (by omega)
  have g108 : ¬ nI b = 108 := te_ne (b := 108) h108 (by omega) (by omega)
  refine ⟨_, _, ?_, te_xmN g104 g108, te_ymN hp e0 g104 g108⟩
  exact te_mk0 hA hF (fun _ _ => rfl)
end
