/-! both sides at each last byte, without ? -/
def te_R0 (u : SX) (v : SY) : Prop :=
  ∃ (R C P T B : Nat) (ins wr ot wt : Int32) (SR SC SP AR AC AO AB K : Nat) (ma mk se bg mq mn : Int32) (ce ad aq sh kp nu nq : Nat → Int32),
    u = ((nI R), (nI C), (nI P), (nI T), (nI B), ins, wr, ot, wt, (nI SR), (nI SC), (nI SP), (nI AR), (nI AC), (nI AO), (nI AB), (nI K), 0, ma, mk, se, ce, ad, sh, kp, nu) ∧ v = ((nI R), (nI C), (nI P), (nI T), (nI B), ins, wr, ot, wt, (nI SR), (nI SC), (nI SP), (nI AR), (nI AC), (nI AO), (nI AB), (nI K), 0, bg, mq, mn, ce, sh, aq, kp, nq) ∧ te_A R C P T B ins wr ot wt SR SC SP AR AC AO AB K ∧ te_F ot ce ad aq ∧ ∀ j, 4 ≤ j → nu j = nq j
theorem te_mk0 {R C P T B : Nat} {ins wr ot wt : Int32} {SR SC SP AR AC AO AB K : Nat} {ma mk se bg mq mn : Int32} {ce ad aq sh kp nu nq : Nat → Int32} (hA : te_A R C P T B ins wr ot wt SR SC SP AR AC AO AB K) (hF : te_F ot ce ad aq) (hj : ∀ j, 4 ≤ j → nu j = nq j) : te_R0 ((nI R), (nI C), (nI P), (nI T), (nI B), ins, wr, ot, wt, (nI SR), (nI SC), (nI SP), (nI AR), (nI AC), (nI AO), (nI AB), (nI K), 0, ma, mk, se, ce, ad, sh, kp, nu) ((nI R), (nI C), (nI P), (nI T), (nI B), ins, wr, ot, wt, (nI SR), (nI SC), (nI SP), (nI AR), (nI AC), (nI AO), (nI AB), (nI K), 0, bg, mq, mn, ce, sh, aq, kp, nq) := by
  unfold te_R0
  exact ⟨R, C, P, T, B, ins, wr, ot, wt, SR, SC, SP, AR, AC, AO, AB, K, ma, mk, se, bg, mq, mn, ce, ad, aq, sh, kp, nu, nq, rfl, rfl, hA, hF, hj⟩
theorem te_rgEr {c : Nat → Int32} (h : te_rg c) (p s e a : Nat) : te_rg (te_er p s e a c) := by
  unfold te_er
  repeat' split
  all_goals first | exact te_rgCl h _ _ | exact h
theorem te_rgCp {c d : Nat → Int32} (hc : te_rg c) (hd : te_rg d) (j : Nat) : te_rg (te_cp c d j) := by
  intro k
  simp only [te_cp]
  split
  · exact hc k
  · exact hd k
theorem te_cpHi (c s : Nat → Int32) {j : Nat} (h : 72 ≤ j) : te_cp c s 72 j = s j := by
  simp only [te_cp]
  rw [if_neg (by omega)]
theorem te_cpEq (c : Nat → Int32) {s t : Nat → Int32} (h : ∀ j, 72 ≤ j → s j = t j) : te_cp c t 72 = te_cp c s 72 := by
  funext k
  simp only [te_cp]
  by_cases hk : k < 72
  · rw [if_pos hk, if_pos hk]
  · rw [if_neg hk, if_neg hk]
    exact (h k (by omega)).symm
section
variable {R C P T B SR SC SP AR AC AO AB K E : Nat} {ins wr ot wt bg : Int32} {ce ad aq sh kp nu : Nat → Int32}
theorem te_run65 (hA : te_A R C P T B ins wr ot wt SR SC SP AR AC AO AB K) (hF : te_F ot ce ad aq) {p q : Nat} (hp : p ≤ 99) (hq : q ≤ 99) (e0 : nu 0 = nI p) (e1 : nu 1 = nI q) : ∃ u' v', te_R0 u' v' ∧ te_To (fun t => wpX_runPlain t ((nI R), (nI C), (nI P), (nI T), (nI B), ins, wr, ot, wt, (nI SR), (nI SC), (nI SP), (nI AR), (nI AC), (nI AO), (nI AB), (nI K), 0, 0, 0, (nI E), ce, ad, sh, kp, nu) 65) u' ∧ te_To (fun t => wpY_last t ((nI R), (nI C), (nI P), (nI T), (nI B), ins, wr, ot, wt, (nI SR), (nI SC), (nI SP), (nI AR), (nI AC), (nI AO), (nI AB), (nI K), 0, bg, 0, (nI (E + 1)), ce, sh, aq, kp, nu) 65) v' := by
  obtain ⟨hR, hC, hP, hTB, hB, hin, hwr, hot, hwt, hsr, hsc, hsp, har, hac, hao, hab, hK⟩ := hA
  obtain ⟨hc, had, hjj, hoo⟩ := hF
  obtain ⟨hn1, hn9⟩ := te_n1 p
  have hn := hn9 hp
  have h6 : te_dec R (te_max p 1) (te_L65 R T) < 6 := by
    unfold te_dec te_L65
    repeat' split
    all_goals omega
  refine ⟨_, _, ?_, te_xr65 hR hC hP hTB hB hK hp hq e0 e1, te_yr65 hR hC hP hTB hB hK hp hq hwt hc e0 e1⟩
  exact te_mk0 ⟨h6, hC, hP, hTB, hB, hin, hwr, hot, te_0, hsr, hsc, hsp, har, hac, hao, hab, hK⟩ ⟨hc, had, hjj, hoo⟩ (fun _ _ => rfl)
theorem te_run66 (hA : te_A R C P T B ins wr ot wt SR SC SP AR AC AO AB K) (hF : te_F ot ce ad aq) {p q : Nat} (hp : p ≤ 99) (hq : q ≤ 99) (e0 : nu 0 = nI p) (e1 : nu 1 = nI q) : ∃ u' v', te_R0 u' v' ∧ te_To (fun t => wpX_runPlain t ((nI R), (nI C), (nI P), (nI T), (nI B), ins, wr, ot, wt, (nI SR), (nI SC), (nI SP), (nI AR), (nI AC), (nI AO), (nI AB), (nI K), 0, 0, 0, (nI E), ce, ad, sh, kp, nu) 66) u' ∧ te_To (fun t => wpY_last t ((nI R), (nI C), (nI P), (nI T), (nI B), ins, wr, ot, wt, (nI SR), (nI SC), (nI SP), (nI AR), (nI AC), (nI AO), (nI AB), (nI K), 0, bg, 0, (nI (E + 1)), ce, sh, aq, kp, nu) 66) v' := by
  obtain ⟨hR, hC, hP, hTB, hB, hin, hwr, hot, hwt, hsr, hsc, hsp, har, hac, hao, hab, hK⟩ := hA
  obtain ⟨hc, had, hjj, hoo⟩ := hF
  obtain ⟨hn1, hn9⟩ := te_n1 p
  have hn := hn9 hp
  have h6 : te_min (R + (te_max p 1)) (te_L66 R B) < 6 := by
    have h1 := te_minLe (R + (te_max p 1)) (te_L66 R B)
    have h2 : te_L66 R B ≤ 5 := by unfold te_L66; split <;> omega
    omega
  refine ⟨_, _, ?_, te_xr66 hR hC hP hTB hB hK hp hq e0 e1, te_yr66 hR hC hP hTB hB hK hp hq hwt hc e0 e1⟩
  exact te_mk0 ⟨h6, hC, hP, hTB, hB, hin, hwr, hot, te_0, hsr, hsc, hsp, har, hac, hao, hab, hK⟩ ⟨hc, had, hjj, hoo⟩ (fun _ _ => rfl)
theorem te_run67 (hA : te_A R C P T B ins wr ot wt SR SC SP AR AC AO AB K) (hF : te_F ot ce ad aq) {p q : Nat} (hp : p ≤ 99) (hq : q ≤ 99) (e0 : nu 0 = nI p) (e1 : nu 1 = nI q) : ∃ u' v', te_R0 u' v' ∧ te_To (fun t => wpX_runPlain t ((nI R), (nI C), (nI P), (nI T), (nI B), ins, wr, ot, wt, (nI SR), (nI SC), (nI SP), (nI AR), (nI AC), (nI AO), (nI AB), (nI K), 0, 0, 0, (nI E), ce, ad, sh, kp, nu) 67) u' ∧ te_To (fun t => wpY_last t ((nI R), (nI C), (nI P), (nI T), (nI B), ins, wr, ot, wt, (nI SR), (nI SC), (nI SP), (nI AR), (nI AC), (nI AO), (nI AB), (nI K), 0, bg, 0, (nI (E + 1)), ce, sh, aq, kp, nu) 67) v' := by
  obtain ⟨hR, hC, hP, hTB, hB, hin, hwr, hot, hwt, hsr, hsc, hsp, har, hac, hao, hab, hK⟩ := hA
  obtain ⟨hc, had, hjj, hoo⟩ := hF
  obtain ⟨hn1, hn9⟩ := te_n1 p
  have hn := hn9 hp
  have h6 : te_min (C + (te_max p 1)) 11 < 12 := Nat.lt_succ_of_le (te_minLe _ _)
  refine ⟨_, _, ?_, te_xr67 hR hC hP hTB hB hK hp hq e0 e1, te_yr67 hR hC hP hTB hB hK hp hq hwt hc e0 e1⟩
  exact te_mk0 ⟨hR, h6, hP, hTB, hB, hin, hwr, hot, te_0, hsr, hsc, hsp, har, hac, hao, hab, hK⟩ ⟨hc, had, hjj, hoo⟩ (fun _ _ => rfl)
theorem te_run68 (hA : te_A R C P T B ins wr ot wt SR SC SP AR AC AO AB K) (hF : te_F ot ce ad aq) {p q : Nat} (hp : p ≤ 99) (hq : q ≤ 99) (e0 : nu 0 = nI p) (e1 : nu 1 = nI q) : ∃ u' v', te_R0 u' v' ∧ te_To (fun t => wpX_runPlain t ((nI R), (nI C), (nI P), (nI T), (nI B), ins, wr, ot, wt, (nI SR), (nI SC), (nI SP), (nI AR), (nI AC), (nI AO), (nI AB), (nI K), 0, 0, 0, (nI E), ce, ad, sh, kp, nu) 68) u' ∧ te_To (fun t => wpY_last t ((nI R), (nI C), (nI P), (nI T), (nI B), ins, wr, ot, wt, (nI SR), (nI SC), (nI SP), (nI AR), (nI AC), (nI AO), (nI AB), (nI K), 0, bg, 0, (nI (E + 1)), ce, sh, aq, kp, nu) 68) v' := by
  obtain ⟨hR, hC, hP, hTB, hB, hin, hwr, hot, hwt, hsr, hsc, hsp, har, hac, hao, hab, hK⟩ := hA
  obtain ⟨hc, had, hjj, hoo⟩ := hF
  obtain ⟨hn1, hn9⟩ := te_n1 p
  have hn := hn9 hp
  have h6 : te_dec C (te_max p 1) 0 < 12 := by
    unfold te_dec
    split <;> omega
  refine ⟨_, _, ?_, te_xr68 hR hC hP hTB hB hK hp hq e0 e1, te_yr68 hR hC hP hTB hB hK hp hq hwt hc e0 e1⟩
  exact te_mk0 ⟨hR, h6, hP, hTB, hB, hin, hwr, hot, te_0, hsr, hsc, hsp, har, hac, hao, hab, hK⟩ ⟨hc, had, hjj, hoo⟩ (fun _ _ => rfl)
theorem te_run71 (hA : te_A R C P T B ins wr ot wt SR SC SP AR AC AO AB K) (hF : te_F ot ce ad aq) {p q : Nat} (hp : p ≤ 99) (hq : q ≤ 99) (e0 : nu 0 = nI p) (e1 : nu 1 = nI q) : ∃ u' v', te_R0 u' v' ∧ te_To (fun t => wpX_runPlain t ((nI R), (nI C), (nI P), (nI T), (nI B), ins, wr, ot, wt, (nI SR), (nI SC), (nI SP), (nI AR), (nI AC), (nI AO), (nI AB), (nI K), 0, 0, 0, (nI E), ce, ad, sh, kp, nu) 71) u' ∧ te_To (fun t => wpY_last t ((nI R), (nI C), (nI P), (nI T), (nI B), ins, wr, ot, wt, (nI SR), (nI SC), (nI SP), (nI AR), (nI AC), (nI AO), (nI AB), (nI K), 0, bg, 0, (nI (E + 1)), ce, sh, aq, kp, nu) 71) v' := by
  obtain ⟨hR, hC, hP, hTB, hB, hin, hwr, hot, hwt, hsr, hsc, hsp, har, hac, hao, hab, hK⟩ := hA
  obtain ⟨hc, had, hjj, hoo⟩ := hF
  obtain ⟨hn1, hn9⟩ := te_n1 p
  have hn := hn9 hp
  have h6 : te_min ((te_max p 1) - 1) 11 < 12 := Nat.lt_succ_of_le (te_minLe _ _)
  refine ⟨_, _, ?_, te_xr71 hR hC hP hTB hB hK hp hq e0 e1, te_yr71 hR hC hP hTB hB hK hp hq hwt hc e0 e1⟩
  exact te_mk0 ⟨hR, h6, hP, hTB, hB, hin, hwr, hot, te_0, hsr, hsc, hsp, har, hac, hao, hab, hK⟩ ⟨hc, had, hjj, hoo⟩ (fun _ _ => rfl)
theorem te_run100 (hA : te_A R C P T B ins wr ot wt SR SC SP AR AC AO AB K) (hF : te_F ot ce ad aq) {p q : Nat} (hp : p ≤ 99) (hq : q ≤ 99) (e0 : nu 0 = nI p) (e1 : nu 1 = nI q) : ∃ u' v', te_R0 u' v' ∧ te_To (fun t => wpX_runPlain t ((nI R), (nI C), (nI P), (nI T), (nI B), ins, wr, ot, wt, (nI SR), (nI SC), (nI SP), (nI AR), (nI AC), (nI AO), (nI AB), (nI K), 0, 0, 0, (nI E), ce, ad, sh, kp, nu) 100) u' ∧ te_To (fun t => wpY_last t ((nI R), (nI C), (nI P), (nI T), (nI B), ins, wr, ot, wt, (nI SR), (nI SC), (nI SP), (nI AR), (nI AC), (nI AO), (nI AB), (nI K), 0, bg, 0, (nI (E + 1)), ce, sh, aq, kp, nu) 100) v' := by
  obtain ⟨hR, hC, hP, hTB, hB, hin, hwr, hot, hwt, hsr, hsc, hsp, har, hac, hao, hab, hK⟩ := hA
  obtain ⟨hc, had, hjj, hoo⟩ := hF
  obtain ⟨hn1, hn9⟩ := te_n1 p
  have hn := hn9 hp
  have h6 : te_min ((te_max p 1) - 1) 5 < 6 := Nat.lt_succ_of_le (te_minLe _ _)
  refine ⟨_, _, ?_, te_xr100 hR hC hP hTB hB hK hp hq e0 e1, te_yr100 hR hC hP hTB hB hK hp hq hwt hc e0 e1⟩
  exact te_mk0 ⟨h6, hC, hP, hTB, hB, hin, hwr, hot, te_0, hsr, hsc, hsp, har, hac, hao, hab, hK⟩ ⟨hc, had, hjj, hoo⟩ (fun _ _ => rfl)
theorem te_run72 (hA : te_A R C P T B ins wr ot wt SR SC SP AR AC AO AB K) (hF : te_F ot ce ad aq) {p q : Nat} (hp : p ≤ 99) (hq : q ≤ 99) (e0 : nu 0 = nI p) (e1 : nu 1 = nI q) : ∃ u' v', te_R0 u' v' ∧ te_To (fun t => wpX_runPlain t ((nI R), (nI C), (nI P), (nI T), (nI B), ins, wr, ot, wt, (nI SR), (nI SC), (nI SP), (nI AR), (nI AC), (nI AO), (nI AB), (nI K), 0, 0, 0, (nI E), ce, ad, sh, kp, nu) 72) u' ∧ te_To (fun t => wpY_last t ((nI R), (nI C), (nI P), (nI T), (nI B), ins, wr, ot, wt, (nI SR), (nI SC), (nI SP), (nI AR), (nI AC), (nI AO), (nI AB), (nI K), 0, bg, 0, (nI (E + 1)), ce, sh, aq, kp, nu) 72) v' := by
  obtain ⟨hR, hC, hP, hTB, hB, hin, hwr, hot, hwt, hsr, hsc, hsp, har, hac, hao, hab, hK⟩ := hA
  obtain ⟨hc, had, hjj, hoo⟩ := hF
  obtain ⟨hn1, hn9⟩ := te_n1 p
  have hn := hn9 hp
  have h6 : te_min ((te_max p 1) - 1) 5 < 6 := Nat.lt_succ_of_le (te_minLe _ _)
  have h7 : te_min (te_max q 1 - 1) 11 < 12 := Nat.lt_succ_of_le (te_minLe _ _)
  refine ⟨_, _, ?_, te_xr72 hR hC hP hTB hB hK hp hq e0 e1, te_yr72 hR hC hP hTB hB hK hp hq hwt hc e0 e1⟩
  exact te_mk0 ⟨h6, h7, hP, hTB, hB, hin, hwr, hot, te_0, hsr, hsc, hsp, har, hac, hao, hab, hK⟩ ⟨hc, had, hjj, hoo⟩ (fun _ _ => rfl)
theorem te_run74 (hA : te_A R C P T B ins wr ot wt SR SC SP AR AC AO AB K) (hF : te_F ot ce ad aq) {p q : Nat} (hp : p ≤ 99) (hq : q ≤ 99) (e0 : nu 0 = nI p) (e1 : nu 1 = nI q) : ∃ u' v', te_R0 u' v' ∧ te_To (fun t => wpX_runPlain t ((nI R), (nI C), (nI P), (nI T), (nI B), ins, wr, ot, wt, (nI SR), (nI SC), (nI SP), (nI AR), (nI AC), (nI AO), (nI AB), (nI K), 0, 0, 0, (nI E), ce, ad, sh, kp, nu) 74) u' ∧ te_To (fun t => wpY_last t ((nI R), (nI C), (nI P), (nI T), (nI B), ins, wr, ot, wt, (nI SR), (nI SC), (nI SP), (nI AR), (nI AC), (nI AO), (nI AB), (nI K), 0, bg, 0, (nI (E + 1)), ce, sh, aq, kp, nu) 74) v' := by
  obtain ⟨hR, hC, hP, hTB, hB, hin, hwr, hot, hwt, hsr, hsc, hsp, har, hac, hao, hab, hK⟩ := hA
  obtain ⟨hc, had, hjj, hoo⟩ := hF
  obtain ⟨hn1, hn9⟩ := te_n1 p
  have hn := hn9 hp
  refine ⟨_, _, ?_, te_xr74 hR hC hP hTB hB hK hp hq e0 e1, te_yr74 hR hC hP hTB hB hK hp hq hwt hc e0 e1⟩
  exact te_mk0 ⟨hR, hC, hP, hTB, hB, hin, hwr, hot, te_0, hsr, hsc, hsp, har, hac, hao, hab, hK⟩ ⟨te_rgEr hc _ _ _ _, had, hjj, hoo⟩ (fun _ _ => rfl)
theorem te_run75 (hA : te_A R C P T B ins wr ot wt SR SC SP AR AC AO AB K) (hF : te_F ot ce ad aq) {p q : Nat} (hp : p ≤ 99) (hq : q ≤ 99) (e0 : nu 0 = nI p) (e1 : nu 1 = nI q) : ∃ u' v', te_R0 u' v' ∧ te_To (fun t => wpX_runPlain t ((nI R), (nI C), (nI P), (nI T), (nI B), ins, wr, ot, wt, (nI SR), (nI SC), (nI SP), (nI AR), (nI AC), (nI AO), (nI AB), (nI K), 0, 0, 0, (nI E), ce, ad, sh, kp, nu) 75) u' ∧ te_To (fun t => wpY_last t ((nI R), (nI C), (nI P), (nI T), (nI B), ins, wr, ot, wt, (nI SR), (nI SC), (nI SP), (nI AR), (nI AC), (nI AO), (nI AB), (nI K), 0, bg, 0, (nI (E + 1)), ce, sh, aq, kp, nu) 75) v' := by
  obtain ⟨hR, hC, hP, hTB, hB, hin, hwr, hot, hwt, hsr, hsc, hsp, har, hac, hao, hab, hK⟩ := hA
  obtain ⟨hc, had, hjj, hoo⟩ := hF
  obtain ⟨hn1, hn9⟩ := te_n1 p
  have hn := hn9 hp
  refine ⟨_, _, ?_, te_xr75 hR hC hP hTB hB hK hp hq e0 e1, te_yr75 hR hC hP hTB hB hK hp hq hwt hc e0 e1⟩
  exact te_mk0 ⟨hR, hC, hP, hTB, hB, hin, hwr, hot, te_0, hsr, hsc, hsp, har, hac, hao, hab, hK⟩ ⟨te_rgEr hc _ _ _ _, had, hjj, hoo⟩ (fun _ _ => rfl)
theorem te_run88 (hA : te_A R C P T B ins wr ot wt SR SC SP AR AC AO AB K) (hF : te_F ot ce ad aq) {p q : Nat} (hp : p ≤ 99) (hq : q ≤ 99) (e0 : nu 0 = nI p) (e1 : nu 1 = nI q) : ∃ u' v', te_R0 u' v' ∧ te_To (fun t => wpX_runPlain t ((nI R), (nI C), (nI P), (nI T), (nI B), ins, wr, ot, wt, (nI SR), (nI SC), (nI SP), (nI AR), (nI AC), (nI AO), (nI AB), (nI K), 0, 0, 0, (nI E), ce, ad, sh, kp, nu) 88) u' ∧ te_To (fun t => wpY_last t ((nI R), (nI C), (nI P), (nI T), (nI B), ins, wr, ot, wt, (nI SR), (nI SC), (nI SP), (nI AR), (nI AC), (nI AO), (nI AB), (nI K), 0, bg, 0, (nI (E + 1)), ce, sh, aq, kp, nu) 88) v' := by
  obtain ⟨hR, hC, hP, hTB, hB, hin, hwr, hot, hwt, hsr, hsc, hsp, har, hac, hao, hab, hK⟩ := hA
  obtain ⟨hc, had, hjj, hoo⟩ := hF
  obtain ⟨hn1, hn9⟩ := te_n1 p
  have hn := hn9 hp
  refine ⟨_, _, ?_, te_xr88 hR hC hP hTB hB hK hp hq e0 e1, te_yr88 hR hC hP hTB hB hK hp hq hwt hc e0 e1⟩
  exact te_mk0 ⟨hR, hC, hP, hTB, hB, hin, hwr, hot, te_0, hsr, hsc, hsp, har, hac, hao, hab, hK⟩ ⟨te_rgCl hc _ _, had, hjj, hoo⟩ (fun _ _ => rfl)
theorem te_run80 (hA : te_A R C P T B ins wr ot wt SR SC SP AR AC AO AB K) (hF : te_F ot ce ad aq) {p q : Nat} (hp : p ≤ 99) (hq : q ≤ 99) (e0 : nu 0 = nI p) (e1 : nu 1 = nI q) : ∃ u' v', te_R0 u' v' ∧ te_To (fun t => wpX_runPlain t ((nI R), (nI C), (nI P), (nI T), (nI B), ins, wr, ot, wt, (nI SR), (nI SC), (nI SP), (nI AR), (nI AC), (nI AO), (nI AB), (nI K), 0, 0, 0, (nI E), ce, ad, sh, kp, nu) 80) u' ∧ te_To (fun t => wpY_last t ((nI R), (nI C), (nI P), (nI T), (nI B), ins, wr, ot, wt, (nI SR), (nI SC), (nI SP), (nI AR), (nI AC), (nI AO), (nI AB), (nI K), 0, bg, 0, (nI (E + 1)), ce, sh, aq, kp, nu) 80) v' := by
  obtain ⟨hR, hC, hP, hTB, hB, hin, hwr, hot, hwt, hsr, hsc, hsp, har, hac, hao, hab, hK⟩ := hA
  obtain ⟨hc, had, hjj, hoo⟩ := hF
  obtain ⟨hn1, hn9⟩ := te_n1 p
  have hn := hn9 hp
  refine ⟨_, _, ?_, te_xr80 hR hC hP hTB hB hK hp hq e0 e1, te_yr80 hR hC hP hTB hB hK hp hq hwt hc e0 e1⟩
  exact te_mk0 ⟨hR, hC, hP, hTB, hB, hin, hwr, hot, te_0, hsr, hsc, hsp, har, hac, hao, hab, hK⟩ ⟨te_rgMb hc _ _ _, had, hjj, hoo⟩ (fun _ _ => rfl)
theorem te_run64 (hA : te_A R C P T B ins wr ot wt SR SC SP AR AC AO AB K) (hF : te_F ot ce ad aq) {p q : Nat} (hp : p ≤ 99) (hq : q ≤ 99) (e0 : nu 0 = nI p) (e1 : nu 1 = nI q) : ∃ u' v', te_R0 u' v' ∧ te_To (fun t => wpX_runPlain t ((nI R), (nI C), (nI P), (nI T), (nI B), ins, wr, ot, wt, (nI SR), (nI SC), (nI SP), (nI AR), (nI AC), (nI AO), (nI AB), (nI K), 0, 0, 0, (nI E), ce, ad, sh, kp, nu) 64) u' ∧ te_To (fun t => wpY_last t ((nI R), (nI C), (nI P), (nI T), (nI B), ins, wr, ot, wt, (nI SR), (nI SC), (nI SP), (nI AR), (nI AC), (nI AO), (nI AB), (nI K), 0, bg, 0, (nI (E + 1)), ce, sh, aq, kp, nu) 64) v' := by
  obtain ⟨hR, hC, hP, hTB, hB, hin, hwr, hot, hwt, hsr, hsc, hsp, har, hac, hao, hab, hK⟩ := hA
  obtain ⟨hc, had, hjj, hoo⟩ := hF
  obtain ⟨hn1, hn9⟩ := te_n1 p
  have hn := hn9 hp
  refine ⟨_, _, ?_, te_xr64 hR hC hP hTB hB hK hp hq e0 e1, te_yr64 hR hC hP hTB hB hK hp hq hwt hc e0 e1⟩
  exact te_mk0 ⟨hR, hC, hP, hTB, hB, hin, hwr, hot, te_0, hsr, hsc, hsp, har, hac, hao, hab, hK⟩ ⟨te_rgMo hc _ _ _, had, hjj, hoo⟩ (fun _ _ => rfl)
theorem te_run76 (hA : te_A R C P T B ins wr ot wt SR SC SP AR AC AO AB K) (hF : te_F ot ce ad aq) {p q : Nat} (hp : p ≤ 99) (hq : q ≤ 99) (e0 : nu 0 = nI p) (e1 : nu 1 = nI q) : ∃ u' v', te_R0 u' v' ∧ te_To (fun t => wpX_runPlain t ((nI R), (nI C), (nI P), (nI T), (nI B), ins, wr, ot, wt, (nI SR), (nI SC), (nI SP), (nI AR), (nI AC), (nI AO), (nI AB), (nI K), 0, 0, 0, (nI E), ce, ad, sh, kp, nu) 76) u' ∧ te_To (fun t => wpY_last t ((nI R), (nI C), (nI P), (nI T), (nI B), ins, wr, ot, wt, (nI SR), (nI SC), (nI SP), (nI AR), (nI AC), (nI AO), (nI AB), (nI K), 0, bg, 0, (nI (E + 1)), ce, sh, aq, kp, nu) 76) v' := by
  obtain ⟨hR, hC, hP, hTB, hB, hin, hwr, hot, hwt, hsr, hsc, hsp, har, hac, hao, hab, hK⟩ := hA
  obtain ⟨hc, had, hjj, hoo⟩ := hF
  obtain ⟨hn1, hn9⟩ := te_n1 p
  have hn := hn9 hp
  by_cases hO : R < T ∨ B < R
  · refine ⟨_, _, ?_, te_xr76o hR hC hP hTB hB hK hp hq e0 e1 hO, te_yr76o hR hC hP hTB hB hK hp hq hwt hc e0 e1 hO⟩
    exact te_mk0 ⟨hR, hC, hP, hTB, hB, hin, hwr, hot, te_0, hsr, hsc, hsp, har, hac, hao, hab, hK⟩ ⟨hc, had, hjj, hoo⟩ (fun _ _ => rfl)
  · have hT : T ≤ R := by omega
    have hRB : R ≤ B := by omega
    refine ⟨_, _, ?_, te_xr76 hR hC hP hTB hB hK hp hq e0 e1 hT hRB, te_yr76 hR hC hP hTB hB hK hp hq hwt hc e0 e1 hT hRB⟩
    exact te_mk0 (C := 0) ⟨hR, (by omega), hP, hTB, hB, hin, hwr, hot, te_0, hsr, hsc, hsp, har, hac, hao, hab, hK⟩ ⟨te_rgMo hc _ _ _, had, hjj, hoo⟩ (fun _ _ => rfl)
theorem te_run77 (hA : te_A R C P T B ins wr ot wt SR SC SP AR AC AO AB K) (hF : te_F ot ce ad aq) {p q : Nat} (hp : p ≤ 99) (hq : q ≤ 99) (e0 : nu 0 = nI p) (e1 : nu 1 = nI q) : ∃ u' v', te_R0 u' v' ∧ te_To (fun t => wpX_runPlain t ((nI R), (nI C), (nI P), (nI T), (nI B), ins, wr, ot, wt, (nI SR), (nI SC), (nI SP), (nI AR), (nI AC), (nI AO), (nI AB), (nI K), 0, 0, 0, (nI E), ce, ad, sh, kp, nu) 77) u' ∧ te_To (fun t => wpY_last t ((nI R), (nI C), (nI P), (nI T), (nI B), ins, wr, ot, wt, (nI SR), (nI SC), (nI SP), (nI AR), (nI AC), (nI AO), (nI AB), (nI K), 0, bg, 0, (nI (E + 1)), ce, sh, aq, kp, nu) 77) v' := by
  obtain ⟨hR, hC, hP, hTB, hB, hin, hwr, hot, hwt, hsr, hsc, hsp, har, hac, hao, hab, hK⟩ := hA
  obtain ⟨hc, had, hjj, hoo⟩ := hF
  obtain ⟨hn1, hn9⟩ := te_n1 p
  have hn := hn9 hp
  by_cases hO : R < T ∨ B < R
  · refine ⟨_, _, ?_, te_xr77o hR hC hP hTB hB hK hp hq e0 e1 hO, te_yr77o hR hC hP hTB hB hK hp hq hwt hc e0 e1 hO⟩
    exact te_mk0 ⟨hR, hC, hP, hTB, hB, hin, hwr, hot, te_0, hsr, hsc, hsp, har, hac, hao, hab, hK⟩ ⟨hc, had, hjj, hoo⟩ (fun _ _ => rfl)
  · have hT : T ≤ R := by omega
    have hRB : R ≤ B := by omega
    refine ⟨_, _, ?_, te_xr77 hR hC hP hTB hB hK hp hq e0 e1 hT hRB, te_yr77 hR hC hP hTB hB hK hp hq hwt hc e0 e1 hT hRB⟩
    exact te_mk0 (C := 0) ⟨hR, (by omega), hP, hTB, hB, hin, hwr, hot, te_0, hsr, hsc, hsp, har, hac, hao, hab, hK⟩ ⟨te_rgMb hc _ _ _, had, hjj, hoo⟩ (fun _ _ => rfl)
theorem te_run83 (hA : te_A R C P T B ins wr ot wt SR SC SP AR AC AO AB K) (hF : te_F ot ce ad aq) {p q : Nat} (hp : p ≤ 99) (hq : q ≤ 99) (e0 : nu 0 = nI p) (e1 : nu 1 = nI q) : ∃ u' v', te_R0 u' v' ∧ te_To (fun t => wpX_runPlain t ((nI R), (nI C), (nI P), (nI T), (nI B), ins, wr, ot, wt, (nI SR), (nI SC), (nI SP), (nI AR), (nI AC), (nI AO), (nI AB), (nI K), 0, 0, 0, (nI E), ce, ad, sh, kp, nu) 83) u' ∧ te_To (fun t => wpY_last t ((nI R), (nI C), (nI P), (nI T), (nI B), ins, wr, ot, wt, (nI SR), (nI SC), (nI SP), (nI AR), (nI AC), (nI AO), (nI AB), (nI K), 0, bg, 0, (nI (E + 1)), ce, sh, aq, kp, nu) 83) v' := by
  obtain ⟨hR, hC, hP, hTB, hB, hin, hwr, hot, hwt, hsr, hsc, hsp, har, hac, hao, hab, hK⟩ := hA
  obtain ⟨hc, had, hjj, hoo⟩ := hF
  obtain ⟨hn1, hn9⟩ := te_n1 p
  have hn := hn9 hp
  have hk := te_snOk (q := te_q ot T) (T := T) (B := B) (te_max p 1) K ce kp hK hc
  refine ⟨_, _, ?_, te_xr83 hR hC hP hTB hB hK hp hq e0 e1, te_yr83 hR hC hP hTB hB hK hp hq hwt hc e0 e1⟩
  exact te_mk0 ⟨hR, hC, hP, hTB, hB, hin, hwr, hot, te_0, hsr, hsc, hsp, har, hac, hao, hab, hk.1⟩ ⟨hk.2, had, hjj, hoo⟩ (fun _ _ => rfl)
theorem te_run84 (hA : te_A R C P T B ins wr ot wt SR SC SP AR AC AO AB K) (hF : te_F ot ce ad aq) {p q : Nat} (hp : p ≤ 99) (hq : q ≤ 99) (e0 : nu 0 = nI p) (e1 : nu 1 = nI q) : ∃ u' v', te_R0 u' v' ∧ te_To (fun t => wpX_runPlain t ((nI R), (nI C), (nI P), (nI T), (nI B), ins, wr, ot, wt, (nI SR), (nI SC), (nI SP), (nI AR), (nI AC), (nI AO), (nI AB), (nI K), 0, 0, 0, (nI E), ce, ad, sh, kp, nu) 84) u' ∧ te_To (fun t => wpY_last t ((nI R), (nI C), (nI P), (nI T), (nI B), ins, wr, ot, wt, (nI SR), (nI SC), (nI SP), (nI AR), (nI AC), (nI AO), (nI AB), (nI K), 0, bg, 0, (nI (E + 1)), ce, sh, aq, kp, nu) 84) v' := by
  obtain ⟨hR, hC, hP, hTB, hB, hin, hwr, hot, hwt, hsr, hsc, hsp, har, hac, hao, hab, hK⟩ := hA
  obtain ⟨hc, had, hjj, hoo⟩ := hF
  obtain ⟨hn1, hn9⟩ := te_n1 p
  have hn := hn9 hp
  refine ⟨_, _, ?_, te_xr84 hR hC hP hTB hB hK hp hq e0 e1, te_yr84 hR hC hP hTB hB hK hp hq hwt hc e0 e1⟩
  exact te_mk0 ⟨hR, hC, hP, hTB, hB, hin, hwr, hot, te_0, hsr, hsc, hsp, har, hac, hao, hab, hK⟩ ⟨te_rgMo hc _ _ _, had, hjj, hoo⟩ (fun _ _ => rfl)
theorem te_run114 (hA : te_A R C P T B ins wr ot wt SR SC SP AR AC AO AB K) (hF : te_F ot ce ad aq) {p q : Nat} (hp : p ≤ 99) (hq : q ≤ 99) (e0 : nu 0 = nI p) (e1 : nu 1 = nI q) : ∃ u' v', te_R0 u' v' ∧ te_To (fun t => wpX_runPlain t ((nI R), (nI C), (nI P), (nI T), (nI B), ins, wr, ot, wt, (nI SR), (nI SC), (nI SP), (nI AR), (nI AC), (nI AO), (nI AB), (nI K), 0, 0, 0, (nI E), ce, ad, sh, kp, nu) 114) u' ∧ te_To (fun t => wpY_last t ((nI R), (nI C), (nI P), (nI T), (nI B), ins, wr, ot, wt, (nI SR), (nI SC), (nI SP), (nI AR), (nI AC), (nI AO), (nI AB), (nI K), 0, bg, 0, (nI (E + 1)), ce, sh, aq, kp, nu) 114) v' := by
  obtain ⟨hR, hC, hP, hTB, hB, hin, hwr, hot, hwt, hsr, hsc, hsp, har, hac, hao, hab, hK⟩ := hA
  obtain ⟨hc, had, hjj, hoo⟩ := hF
  obtain ⟨hn1, hn9⟩ := te_n1 p
  have hn := hn9 hp
  by_cases hO : te_q6 q ≤ (te_max p 1) ∨ 6 < te_q6 q
  · refine ⟨_, _, ?_, te_xr114o hR hC hP hTB hB hK hp hq e0 e1 hO, te_yr114o hR hC hP hTB hB hK hp hq hwt hc e0 e1 hO⟩
    exact te_mk0 ⟨hR, hC, hP, hTB, hB, hin, hwr, hot, te_0, hsr, hsc, hsp, har, hac, hao, hab, hK⟩ ⟨hc, had, hjj, hoo⟩ (fun _ _ => rfl)
  · have h1 : (te_max p 1) < te_q6 q := by omega
    have h6 : te_q6 q ≤ 6 := by omega
    refine ⟨_, _, ?_, te_xr114 hR hC hP hTB hB hK hp hq e0 e1 h1 h6, te_yr114 hR hC hP hTB hB hK hp hq hwt hc e0 e1 h1 h6⟩
    exact te_mk0 (R := 0) (C := 0) ⟨(by omega), (by omega), hP, (by omega), (by omega), hin, hwr, hot, te_0, hsr, hsc, hsp, har, hac, hao, hab, hK⟩ ⟨hc, had, hjj, hoo⟩ (fun _ _ => rfl)
theorem te_run104 (hA : te_A R C P T B ins wr ot wt SR SC SP AR AC AO AB K) (hF : te_F ot ce ad aq) {p q : Nat} (hp : p ≤ 99) (hq : q ≤ 99) (e0 : nu 0 = nI p) (e1 : nu 1 = nI q) : ∃ u' v', te_R0 u' v' ∧ te_To (fun t => wpX_runPlain t ((nI R), (nI C), (nI P), (nI T), (nI B), ins, wr, ot, wt, (nI SR), (nI SC), (nI SP), (nI AR), (nI AC), (nI AO), (nI AB), (nI K), 0, 0, 0, (nI E), ce, ad, sh, kp, nu) 104) u' ∧ te_To (fun t => wpY_last t ((nI R), (nI C), (nI P), (nI T), (nI B), ins, wr, ot, wt, (nI SR), (nI SC), (nI SP), (nI AR), (nI AC), (nI AO), (nI AB), (nI K), 0, bg, 0, (nI (E + 1)), ce, sh, aq, kp, nu) 104) v' := by
  obtain ⟨hR, hC, hP, hTB, hB, hin, hwr, hot, hwt, hsr, hsc, hsp, har, hac, hao, hab, hK⟩ := hA
  obtain ⟨hc, had, hjj, hoo⟩ := hF
  obtain ⟨hn1, hn9⟩ := te_n1 p
  have hn := hn9 hp
  by_cases h4 : p = 4
  · refine ⟨_, _, ?_, te_xr104 hR hC hP hTB hB hK hp hq e0 e1 h4, te_yr104 hR hC hP hTB hB hK hp hq hwt hc e0 e1 hin hwr h4⟩
    exact te_mk0 ⟨hR, hC, hP, hTB, hB, te_1, hwr, hot, hwt, hsr, hsc, hsp, har, hac, hao, hab, hK⟩ ⟨hc, had, hjj, hoo⟩ (fun _ _ => rfl)
  · refine ⟨_, _, ?_, te_xr104o hR hC hP hTB hB hK hp hq e0 e1 h4, te_yr104o hR hC hP hTB hB hK hp hq hwt hc e0 e1 hin hwr h4⟩
    exact te_mk0 ⟨hR, hC, hP, hTB, hB, hin, hwr, hot, hwt, hsr, hsc, hsp, har, hac, hao, hab, hK⟩ ⟨hc, had, hjj, hoo⟩ (fun _ _ => rfl)
theorem te_run108 (hA : te_A R C P T B ins wr ot wt SR SC SP AR AC AO AB K) (hF : te_F ot ce ad aq) {p q : Nat} (hp : p ≤ 99) (hq : q ≤ 99) (e0 : nu 0 = nI p) (e1 : nu 1 = nI q) : ∃ u' v', te_R0 u' v' ∧ te_To (fun t => wpX_runPlain t ((nI R), (nI C), (nI P), (nI T), (nI B), ins, wr, ot, wt, (nI SR), (nI SC), (nI SP), (nI AR), (nI AC), (nI AO), (nI AB), (nI K), 0, 0, 0, (nI E), ce, ad, sh, kp, nu) 108) u' ∧ te_To (fun t => wpY_last t ((nI R), (nI C), (nI P), (nI T), (nI B), ins, wr, ot, wt, (nI SR), (nI SC), (nI SP), (nI AR), (nI AC), (nI AO), (nI AB), (nI K), 0, bg, 0, (nI (E + 1)), ce, sh, aq, kp, nu) 108) v' := by
  obtain ⟨hR, hC, hP, hTB, hB, hin, hwr, hot, hwt, hsr, hsc, hsp, har, hac, hao, hab, hK⟩ := hA
  obtain ⟨hc, had, hjj, hoo⟩ := hF
  obtain ⟨hn1, hn9⟩ := te_n1 p
  have hn := hn9 hp
  by_cases h4 : p = 4
  · refine ⟨_, _, ?_, te_xr108 hR hC hP hTB hB hK hp hq e0 e1 h4, te_yr108 hR hC hP hTB hB hK hp hq hwt hc e0 e1 hin hwr h4⟩
    exact te_mk0 ⟨hR, hC, hP, hTB, hB, te_0, hwr, hot, hwt, hsr, hsc, hsp, har, hac, hao, hab, hK⟩ ⟨hc, had, hjj, hoo⟩ (fun _ _ => rfl)
  · refine ⟨_, _, ?_, te_xr108o hR hC hP hTB hB hK hp hq e0 e1 h4, te_yr108o hR hC hP hTB hB hK hp hq hwt hc e0 e1 hin hwr h4⟩
    exact te_mk0 ⟨hR, hC, hP, hTB, hB, hin, hwr, hot, hwt, hsr, hsc, hsp, har, hac, hao, hab, hK⟩ ⟨hc, had, hjj, hoo⟩ (fun _ _ => rfl)
theorem te_run109 (hA : te_A R C P T B ins wr ot wt SR SC SP AR AC AO AB K) (hF : te_F ot ce ad aq) {p q : Nat} (hp : p ≤ 99) (hq : q ≤ 99) (e0 : nu 0 = nI p) (e1 : nu 1 = nI q) {v : Nat → Nat} (hE : E ≤ 4) (hv : ∀ j, j < 4 → v j ≤ 99 ∧ nu j = nI (v j)) : ∃ u' v', te_R0 u' v' ∧ te_To (fun t => wpX_runPlain t ((nI R), (nI C), (nI P), (nI T), (nI B), ins, wr, ot, wt, (nI SR), (nI SC), (nI SP), (nI AR), (nI AC), (nI AO), (nI AB), (nI K), 0, 0, 0, (nI E), ce, ad, sh, kp, nu) 109) u' ∧ te_To (fun t => wpY_last t ((nI R), (nI C), (nI P), (nI T), (nI B), ins, wr, ot, wt, (nI SR), (nI SC), (nI SP), (nI AR), (nI AC), (nI AO), (nI AB), (nI K), 0, bg, 0, (nI (E + 1)), ce, sh, aq, kp, nu) 109) v' := by
  obtain ⟨hR, hC, hP, hTB, hB, hin, hwr, hot, hwt, hsr, hsc, hsp, har, hac, hao, hab, hK⟩ := hA
  obtain ⟨hc, had, hjj, hoo⟩ := hF
  refine ⟨_, _, ?_, te_xr109 hR hC hP hTB hB hK hp hq e0 e1 hE hv, te_yr109 hR hC hP hTB hB hK hp hq hwt hc e0 e1 hE hv⟩
  exact te_mk0 ⟨hR, hC, te_pp8 v _ _ _ hP, hTB, hB, hin, hwr, hot, hwt, hsr, hsc, hsp, har, hac, hao, hab, hK⟩ ⟨hc, had, hjj, hoo⟩ (fun _ _ => rfl)
theorem te_run (hA : te_A R C P T B ins wr ot wt SR SC SP AR AC AO AB K) (hF : te_F ot ce ad aq) {p q : Nat} (hp : p ≤ 99) (hq : q ≤ 99) (e0 : nu 0 = nI p) (e1 : nu 1 = nI q) {v : Nat → Nat} (hE : E ≤ 4) (hv : ∀ j, j < 4 → v j ≤ 99 ∧ nu j = nI (v j)) (b : Nat) (hb : b < 128) : ∃ u' v', te_R0 u' v' ∧ te_To (fun t => wpX_runPlain t ((nI R), (nI C), (nI P), (nI T), (nI B), ins, wr, ot, wt, (nI SR), (nI SC), (nI SP), (nI AR), (nI AC), (nI AO), (nI AB), (nI K), 0, 0, 0, (nI E), ce, ad, sh, kp, nu) (nI b)) u' ∧ te_To (fun t => wpY_last t ((nI R), (nI C), (nI P), (nI T), (nI B), ins, wr, ot, wt, (nI SR), (nI SC), (nI SP), (nI AR), (nI AC), (nI AO), (nI AB), (nI K), 0, bg, 0, (nI (E + 1)), ce, sh, aq, kp, nu) (nI b)) v' := by
  by_cases h64 : b = 64
  · subst h64
    exact te_run64 hA hF hp hq e0 e1
  by_cases h65 : b = 65
  · subst h65
    exact te_run65 hA hF hp hq e0 e1
  by_cases h66 : b = 66
  · subst h66
    exact te_run66 hA hF hp hq e0 e1
  by_cases h67 : b = 67
  · subst h67
    exact te_run67 hA hF hp hq e0 e1
  by_cases h68 : b = 68
  · subst h68
    exact te_run68 hA hF hp hq e0 e1
  by_cases h71 : b = 71
  · subst h71
    exact te_run71 hA hF hp hq e0 e1
  by_cases h72 : b = 72
  · subst h72
    exact te_run72 hA hF hp hq e0 e1
  by_cases h74 : b = 74
  · subst h74
    exact te_run74 hA hF hp hq e0 e1
  by_cases h75 : b = 75
  · subst h75
    exact te_run75 hA hF hp hq e0 e1
  by_cases h76 : b = 76
  · subst h76
    exact te_run76 hA hF hp hq e0 e1
  by_cases h77 : b = 77
  · subst h77
    exact te_run77 hA hF hp hq e0 e1
  by_cases h80 : b = 80
  · subst h80
    exact te_run80 hA hF hp hq e0 e1
  by_cases h83 : b = 83
  · subst h83
    exact te_run83 hA hF hp hq e0 e1
  by_cases h84 : b = 84
  · subst h84
    exact te_run84 hA hF hp hq e0 e1
  by_cases h88 : b = 88
  · subst h88
    exact te_run88 hA hF hp hq e0 e1
  by_cases h100 : b = 100
  · subst h100
    exact te_run100 hA hF hp hq e0 e1
  by_cases h104 : b = 104
  · subst h104
    exact te_run104 hA hF hp hq e0 e1
  by_cases h108 : b = 108
  · subst h108
    exact te_run108 hA hF hp hq e0 e1
  by_cases h109 : b = 109
  · subst h109
    exact te_run109 hA hF hp hq e0 e1 hE hv
  by_cases h114 : b = 114
  · subst h114
    exact te_run114 hA hF hp hq e0 e1
  have g64 : ¬ nI b = 64 := te_ne (b := 64) h64 (by omega) (by omega)
  have g65 : ¬ nI b = 65 := te_ne (b := 65) h65 (by omega) (by omega)
  have g66 : ¬ nI b = 66 := te_ne (b := 66) h66 (by omega) (by omega)
  have g67 : ¬ nI b = 67 := te_ne (b := 67) h67 (by omega) (by omega)
  have g68 : ¬ nI b = 68 := te_ne (b := 68) h68 (by omega) (by omega)
  have g71 : ¬ nI b = 71 := te_ne (b := 71) h71 (by omega) (by omega)
  have g72 : ¬ nI b = 72 := te_ne (b := 72) h72 (by omega) (by omega)
  have g74 : ¬ nI b = 74 := te_ne (b := 74) h74 (by omega) (by omega)
  have g75 : ¬ nI b = 75 := te_ne (b := 75) h75 (by omega) (by omega)
  have g76 : ¬ nI b = 76 := te_ne (b := 76) h76 (by omega) (by omega)
  have g77 : ¬ nI b = 77 := te_ne (b := 77) h77 (by omega) (by omega)
  have g80 : ¬ nI b = 80 := te_ne (b := 80) h80 (by omega) (by omega)
  have g83 : ¬ nI b = 83 := te_ne (b := 83) h83 (by omega) (by omega)
  have g84 : ¬ nI b = 84 := te_ne (b := 84) h84 (by omega) (by omega)
  have g88 : ¬ nI b = 88 := te_ne (b := 88) h88 (by omega) (by omega)
  have g100 : ¬ nI b = 100 := te_ne (b := 100) h100 (by omega) (by omega)
  have g104 : ¬ nI b = 104 := te_ne (b := 104) h104 (by omega) (by omega)
  have g108 : ¬ nI b = 108 := te_ne (b := 108) h108 (by omega) (by omega)
  have g109 : ¬ nI b = 109 := te_ne (b := 109) h109 (by omega) (by omega)
  have g114 : ¬ nI b = 114 := te_ne (b := 114) h114 (by omega) (by omega)
  have hlo : ¬ nI b < 65 → ¬ nI b ≤ 68 := by
    intro h1 h2
    have h3 : ¬ b < 65 := fun z => h1 (nI_lt (b := 65) z (by omega))
    have h4 : b ≤ 68 := (nI_leI (b := 68) (by omega) (by omega)).mp h2
    omega
  obtain ⟨hR, hC, hP, hTB, hB, hin, hwr, hot, hwt, hsr, hsc, hsp, har, hac, hao, hab, hK⟩ := hA
  obtain ⟨hc, had, hjj, hoo⟩ := hF
  refine ⟨_, _, ?_, te_xrN hR hC hP hTB hB hK hp hq e0 e1 g64 g65 g66 g67 g68 g71 g72 g74 g75 g76 g77 g80 g83 g84 g88 g100 g104 g108 g109 g114, te_yrN hR hC hP hTB hB hK hp hq hwt hc e0 e1 g64 g65 g66 g67 g68 g71 g72 g74 g75 g76 g77 g80 g83 g84 g88 g100 g114 g104 g108 g109 hlo⟩
  exact te_mk0 ⟨hR, hC, hP, hTB, hB, hin, hwr, hot, hwt, hsr, hsc, hsp, har, hac, hao, hab, hK⟩ ⟨hc, had, hjj, hoo⟩ (fun _ _ => rfl)
end
