/-! the component: each last byte -/
def te_L65 (R T : Nat) : Nat := if R < T then 0 else T
def te_L66 (R B : Nat) : Nat := if R ≤ B then B else 5
def te_er (p s e a : Nat) (c : Nat → Int32) : Nat → Int32 := if p = 0 then te_cl c a e else if p = 1 then te_cl c s (a + 1) else if p = 2 then te_cl c s e else c
theorem te_n1 (p : Nat) : 1 ≤ te_max p 1 ∧ (p ≤ 99 → te_max p 1 ≤ 99) := by unfold te_max; split <;> omega
section
variable {post : SX → Prop} {r cc pn tp bo ins wr ot wt sr sc sp ar ac ao ab kc st ma mk se : Int32} {ce ad sh kp nu : Nat → Int32}
theorem te_xerase {x y : Int32} {R C p : Nat} (s e : Nat) (hx : x = nI s) (hy : y = nI e) (hR : R < 6) (hC : C < 12) (hp : p ≤ 99) (e0 : nu 0 = nI p) (hs : s ≤ 12 * R + C) (he : 12 * R + C < e) (h72 : e ≤ 72) (h : post ((nI R), (nI C), pn, tp, bo, ins, wr, ot, wt, sr, sc, sp, ar, ac, ao, ab, kc, st, ma, mk, se, (te_er p s e (12 * R + C) ce), ad, sh, kp, nu)) : wpX_erase post ((nI R), (nI C), pn, tp, bo, ins, wr, ot, wt, sr, sc, sp, ar, ac, ao, ab, kc, st, ma, mk, se, ce, ad, sh, kp, nu) x y := by
  unfold wpX_erase
  refine nm_r (te_ix R C) (nm_r e0 ?_)
  refine br_f (nI_pos (by omega)) ?_
  unfold te_er at h
  by_cases h0 : p = 0
  · subst h0
    rw [if_pos rfl] at h
    refine br_f (by decide) (br_t nI_0 ?_)
    refine te_xclear (12 * R + C) e rfl hy (by omega) h72 ?_
    exact h
  rw [if_neg h0] at h
  by_cases h1 : p = 1
  · subst h1
    rw [if_pos rfl] at h
    refine br_f (by decide) (br_f (by decide) (br_t rfl ?_))
    refine te_xclear s (12 * R + C + 1) hx (nI_1 _) (by omega) (by omega) ?_
    exact h
  rw [if_neg h1] at h
  by_cases h2 : p = 2
  · subst h2
    rw [if_pos rfl] at h
    refine br_f (by decide) (br_f (by decide) (br_f (by decide) (br_t rfl ?_)))
    refine te_xclear s e hx hy (by omega) h72 ?_
    exact h
  rw [if_neg h2] at h
  exact br_t (nI_lt (a := 2) (by omega) (by omega)) h
theorem te_xputInRows {x : Int32} {R T B n : Nat} (hx : x = nI n) (hT : T ≤ R) (hR : R ≤ B) (hB : B < 6) (h0 : 0 < n) (hn : n < 1000) (h : post ((nI R), 0, pn, (nI T), (nI B), ins, wr, ot, wt, sr, sc, sp, ar, ac, ao, ab, kc, st, ma, mk, se, (te_mo ce (12 * R) (12 * (B + 1)) (12 * n)), ad, sh, kp, nu)) : wpX_putInRows post ((nI R), cc, pn, (nI T), (nI B), ins, wr, ot, wt, sr, sc, sp, ar, ac, ao, ab, kc, st, ma, mk, se, ce, ad, sh, kp, nu) x := by
  subst hx
  unfold wpX_putInRows
  refine br_f (nI_nlt (by omega) (by omega)) (br_f (nI_nlt (by omega) (by omega)) ?_)
  refine te_xmoveOn (12 * R) (12 * (B + 1)) (12 * n) (te_m12 R) (te_b12 B) (te_m12 n) (by omega) (by omega) (by omega) (by omega) ?_
  exact h
theorem te_xtakeOutRows {x : Int32} {R T B n : Nat} (hx : x = nI n) (hT : T ≤ R) (hR : R ≤ B) (hB : B < 6) (h0 : 0 < n) (hn : n < 1000) (h : post ((nI R), 0, pn, (nI T), (nI B), ins, wr, ot, wt, sr, sc, sp, ar, ac, ao, ab, kc, st, ma, mk, se, (te_mb ce (12 * R) (12 * (B + 1)) (12 * n)), ad, sh, kp, nu)) : wpX_takeOutRows post ((nI R), cc, pn, (nI T), (nI B), ins, wr, ot, wt, sr, sc, sp, ar, ac, ao, ab, kc, st, ma, mk, se, ce, ad, sh, kp, nu) x := by
  subst hx
  unfold wpX_takeOutRows
  refine br_f (nI_nlt (by omega) (by omega)) (br_f (nI_nlt (by omega) (by omega)) ?_)
  refine te_xmoveBack (12 * R) (12 * (B + 1)) (12 * n) (te_m12 R) (te_b12 B) (te_m12 n) (by omega) (by omega) (by omega) (by omega) ?_
  exact h
theorem te_xputInRowsO {x : Int32} {R T B : Nat} (hO : R < T ∨ B < R) (hR : R < 6) (hT : T < 6) (hB : B < 6) (h : post ((nI R), cc, pn, (nI T), (nI B), ins, wr, ot, wt, sr, sc, sp, ar, ac, ao, ab, kc, st, ma, mk, se, ce, ad, sh, kp, nu)) : wpX_putInRows post ((nI R), cc, pn, (nI T), (nI B), ins, wr, ot, wt, sr, sc, sp, ar, ac, ao, ab, kc, st, ma, mk, se, ce, ad, sh, kp, nu) x := by
  unfold wpX_putInRows
  by_cases h1 : R < T
  · exact br_t (nI_lt h1 (by omega)) h
  · exact br_f (nI_nlt (by omega) (by omega)) (br_t (nI_lt (by omega) (by omega)) h)
theorem te_xtakeOutRowsO {x : Int32} {R T B : Nat} (hO : R < T ∨ B < R) (hR : R < 6) (hT : T < 6) (hB : B < 6) (h : post ((nI R), cc, pn, (nI T), (nI B), ins, wr, ot, wt, sr, sc, sp, ar, ac, ao, ab, kc, st, ma, mk, se, ce, ad, sh, kp, nu)) : wpX_takeOutRows post ((nI R), cc, pn, (nI T), (nI B), ins, wr, ot, wt, sr, sc, sp, ar, ac, ao, ab, kc, st, ma, mk, se, ce, ad, sh, kp, nu) x := by
  unfold wpX_takeOutRows
  by_cases h1 : R < T
  · exact br_t (nI_lt h1 (by omega)) h
  · exact br_f (nI_nlt (by omega) (by omega)) (br_t (nI_lt (by omega) (by omega)) h)
end
section
variable {R C P T B SR SC SP AR AC AO AB K : Nat} {ins wr ot wt se : Int32} {ce ad sh kp nu : Nat → Int32} {p q : Nat}
theorem te_xr65 (hR : R < 6) (hC : C < 12) (hP : P < 8) (hTB : T ≤ B) (hB : B < 6) (hK : K ≤ 8) (hp : p ≤ 99) (hq : q ≤ 99) (e0 : nu 0 = nI p) (e1 : nu 1 = nI q) : te_To (fun t => wpX_runPlain t ((nI R), (nI C), (nI P), (nI T), (nI B), ins, wr, ot, wt, (nI SR), (nI SC), (nI SP), (nI AR), (nI AC), (nI AO), (nI AB), (nI K), 0, 0, 0, se, ce, ad, sh, kp, nu) 65) ((nI (te_dec R (te_max p 1) (te_L65 R T))), (nI C), (nI P), (nI T), (nI B), ins, wr, ot, 0, (nI SR), (nI SC), (nI SP), (nI AR), (nI AC), (nI AO), (nI AB), (nI K), 0, 0, 0, se, ce, ad, sh, kp, nu) := by
  intro post h
  obtain ⟨hn1, hn9⟩ := te_n1 p
  have hn := hn9 hp
  unfold wpX_runPlain
  refine te_xgreat p 1 e0 rfl (by omega) (by omega) ?_
  refine nm_r (te_m12 R) (nm_r (nI_add (12 * R) 12) (nm_r (nI_add (12 * R) C) (br_f (by decide) (br_f (by decide) (br_f (by decide) (br_t rfl ?_))))))
  unfold wpX_moveUp
  by_cases hT : T ≤ R
  · have e : te_L65 R T = T := if_neg (by omega)
    rw [e] at h
    refine br_t (nI_le hT (by omega)) ?_
    refine te_xgreatS R (te_max p 1) T rfl rfl (by omega) (by omega) (by omega) ?_
    exact h
  · have e : te_L65 R T = 0 := if_pos (by omega)
    rw [e] at h
    refine br_f (nI_ge (by omega) (by omega)) ?_
    refine te_xgreatS R (te_max p 1) 0 rfl rfl (by omega) (by omega) (by omega) ?_
    exact h
theorem te_xr66 (hR : R < 6) (hC : C < 12) (hP : P < 8) (hTB : T ≤ B) (hB : B < 6) (hK : K ≤ 8) (hp : p ≤ 99) (hq : q ≤ 99) (e0 : nu 0 = nI p) (e1 : nu 1 = nI q) : te_To (fun t => wpX_runPlain t ((nI R), (nI C), (nI P), (nI T), (nI B), ins, wr, ot, wt, (nI SR), (nI SC), (nI SP), (nI AR), (nI AC), (nI AO), (nI AB), (nI K), 0, 0, 0, se, ce, ad, sh, kp, nu) 66) ((nI (te_min (R + (te_max p 1)) (te_L66 R B))), (nI C), (nI P), (nI T), (nI B), ins, wr, ot, 0, (nI SR), (nI SC), (nI SP), (nI AR), (nI AC), (nI AO), (nI AB), (nI K), 0, 0, 0, se, ce, ad, sh, kp, nu) := by
  intro post h
  obtain ⟨hn1, hn9⟩ := te_n1 p
  have hn := hn9 hp
  unfold wpX_runPlain
  refine te_xgreat p 1 e0 rfl (by omega) (by omega) ?_
  refine nm_r (te_m12 R) (nm_r (nI_add (12 * R) 12) (nm_r (nI_add (12 * R) C) (br_f (by decide) (br_f (by decide) (br_f (by decide) (br_f (by decide) (br_t rfl ?_)))))))
  unfold wpX_moveDown
  by_cases hT : R ≤ B
  · have e : te_L66 R B = B := if_pos hT
    rw [e] at h
    refine br_t (nI_le hT (by omega)) ?_
    refine te_xless (R + (te_max p 1)) B (nI_add _ _) rfl (by omega) (by omega) ?_
    exact h
  · have e : te_L66 R B = 5 := if_neg hT
    rw [e] at h
    refine br_f (nI_ge (by omega) (by omega)) ?_
    refine te_xless (R + (te_max p 1)) 5 (nI_add _ _) rfl (by omega) (by omega) ?_
    exact h
theorem te_xr67 (hR : R < 6) (hC : C < 12) (hP : P < 8) (hTB : T ≤ B) (hB : B < 6) (hK : K ≤ 8) (hp : p ≤ 99) (hq : q ≤ 99) (e0 : nu 0 = nI p) (e1 : nu 1 = nI q) : te_To (fun t => wpX_runPlain t ((nI R), (nI C), (nI P), (nI T), (nI B), ins, wr, ot, wt, (nI SR), (nI SC), (nI SP), (nI AR), (nI AC), (nI AO), (nI AB), (nI K), 0, 0, 0, se, ce, ad, sh, kp, nu) 67) ((nI R), (nI (te_min (C + (te_max p 1)) 11)), (nI P), (nI T), (nI B), ins, wr, ot, 0, (nI SR), (nI SC), (nI SP), (nI AR), (nI AC), (nI AO), (nI AB), (nI K), 0, 0, 0, se, ce, ad, sh, kp, nu) := by
  intro post h
  obtain ⟨hn1, hn9⟩ := te_n1 p
  have hn := hn9 hp
  unfold wpX_runPlain
  refine te_xgreat p 1 e0 rfl (by omega) (by omega) ?_
  refine nm_r (te_m12 R) (nm_r (nI_add (12 * R) 12) (nm_r (nI_add (12 * R) C) (br_f (by decide) (br_f (by decide) (br_f (by decide) (br_f (by decide) (br_f (by decide) (br_t rfl ?_))))))))
  refine te_xless (C + (te_max p 1)) 11 (nI_add _ _) rfl (by omega) (by omega) ?_
  exact h
theorem te_xr68 (hR : R < 6) (hC : C < 12) (hP : P < 8) (hTB : T ≤ B) (hB : B < 6) (hK : K ≤ 8) (hp : p ≤ 99) (hq : q ≤ 99) (e0 : nu 0 = nI p) (e1 : nu 1 = nI q) : te_To (fun t => wpX_runPlain t ((nI R), (nI C), (nI P), (nI T), (nI B), ins, wr, ot, wt, (nI SR), (nI SC), (nI SP), (nI AR), (nI AC), (nI AO), (nI AB), (nI K), 0, 0, 0, se, ce, ad, sh, kp, nu) 68) ((nI R), (nI (te_dec C (te_max p 1) 0)), (nI P), (nI T), (nI B), ins, wr, ot, 0, (nI SR), (nI SC), (nI SP), (nI AR), (nI AC), (nI AO), (nI AB), (nI K), 0, 0, 0, se, ce, ad, sh, kp, nu) := by
  intro post h
  obtain ⟨hn1, hn9⟩ := te_n1 p
  have hn := hn9 hp
  unfold wpX_runPlain
  refine te_xgreat p 1 e0 rfl (by omega) (by omega) ?_
  refine nm_r (te_m12 R) (nm_r (nI_add (12 * R) 12) (nm_r (nI_add (12 * R) C) (br_f (by decide) (br_f (by decide) (br_f (by decide) (br_f (by decide) (br_f (by decide) (br_f (by decide) (br_t rfl ?_)))))))))
  refine te_xgreatS C (te_max p 1) 0 rfl rfl (by omega) (by omega) (by omega) ?_
  exact h
theorem te_xr71 (hR : R < 6) (hC : C < 12) (hP : P < 8) (hTB : T ≤ B) (hB : B < 6) (hK : K ≤ 8) (hp : p ≤ 99) (hq : q ≤ 99) (e0 : nu 0 = nI p) (e1 : nu 1 = nI q) : te_To (fun t => wpX_runPlain t ((nI R), (nI C), (nI P), (nI T), (nI B), ins, wr, ot, wt, (nI SR), (nI SC), (nI SP), (nI AR), (nI AC), (nI AO), (nI AB), (nI K), 0, 0, 0, se, ce, ad, sh, kp, nu) 71) ((nI R), (nI (te_min ((te_max p 1) - 1) 11)), (nI P), (nI T), (nI B), ins, wr, ot, 0, (nI SR), (nI SC), (nI SP), (nI AR), (nI AC), (nI AO), (nI AB), (nI K), 0, 0, 0, se, ce, ad, sh, kp, nu) := by
  intro post h
  obtain ⟨hn1, hn9⟩ := te_n1 p
  have hn := hn9 hp
  unfold wpX_runPlain
  refine te_xgreat p 1 e0 rfl (by omega) (by omega) ?_
  refine nm_r (te_m12 R) (nm_r (nI_add (12 * R) 12) (nm_r (nI_add (12 * R) C) (br_f (by decide) (br_f (by decide) (br_f (by decide) (br_f (by decide) (br_f (by decide) (br_f (by decide) (br_f (by decide) (br_f (by decide) (br_f (by decide) (br_t rfl ?_))))))))))))
  refine te_xless ((te_max p 1) - 1) 11 (te_ns1 hn1) rfl (by omega) (by omega) ?_
  exact h
theorem te_xr100 (hR : R < 6) (hC : C < 12) (hP : P < 8) (hTB : T ≤ B) (hB : B < 6) (hK : K ≤ 8) (hp : p ≤ 99) (hq : q ≤ 99) (e0 : nu 0 = nI p) (e1 : nu 1 = nI q) : te_To (fun t => wpX_runPlain t ((nI R), (nI C), (nI P), (nI T), (nI B), ins, wr, ot, wt, (nI SR), (nI SC), (nI SP), (nI AR), (nI AC), (nI AO), (nI AB), (nI K), 0, 0, 0, se, ce, ad, sh, kp, nu) 100) ((nI (te_min ((te_max p 1) - 1) 5)), (nI C), (nI P), (nI T), (nI B), ins, wr, ot, 0, (nI SR), (nI SC), (nI SP), (nI AR), (nI AC), (nI AO), (nI AB), (nI K), 0, 0, 0, se, ce, ad, sh, kp, nu) := by
  intro post h
  obtain ⟨hn1, hn9⟩ := te_n1 p
  have hn := hn9 hp
  unfold wpX_runPlain
  refine te_xgreat p 1 e0 rfl (by omega) (by omega) ?_
  refine nm_r (te_m12 R) (nm_r (nI_add (12 * R) 12) (nm_r (nI_add (12 * R) C) (br_f (by decide) (br_f (by decide) (br_f (by decide) (br_f (by decide) (br_f (by decide) (br_f (by decide) (br_f (by decide) (br_f (by decide) (br_f (by decide) (br_f (by decide) (br_f (by decide) (br_f (by decide) (br_f (by decide) (br_f (by decide) (br_f (by decide) (br_f (by decide) (br_f (by decide) (br_f (by decide) (br_f (by decide) (br_f (by decide) (br_f (by decide) (br_f (by decide) (br_f (by decide) (br_f (by decide) (br_f (by decide) (br_f (by decide) (br_f (by decide) (br_f (by decide) (br_f (by decide) (br_f (by decide) (br_f (by decide) (br_f (by decide) (br_f (by decide) (br_f (by decide) (br_f (by decide) (br_f (by decide) (br_f (by decide) (br_f (by decide) (br_t rfl ?_)))))))))))))))))))))))))))))))))))))))))
  refine te_xless ((te_max p 1) - 1) 5 (te_ns1 hn1) rfl (by omega) (by omega) ?_
  exact h
theorem te_xr72 (hR : R < 6) (hC : C < 12) (hP : P < 8) (hTB : T ≤ B) (hB : B < 6) (hK : K ≤ 8) (hp : p ≤ 99) (hq : q ≤ 99) (e0 : nu 0 = nI p) (e1 : nu 1 = nI q) : te_To (fun t => wpX_runPlain t ((nI R), (nI C), (nI P), (nI T), (nI B), ins, wr, ot, wt, (nI SR), (nI SC), (nI SP), (nI AR), (nI AC), (nI AO), (nI AB), (nI K), 0, 0, 0, se, ce, ad, sh, kp, nu) 72) ((nI (te_min ((te_max p 1) - 1) 5)), (nI (te_min (te_max q 1 - 1) 11)), (nI P), (nI T), (nI B), ins, wr, ot, 0, (nI SR), (nI SC), (nI SP), (nI AR), (nI AC), (nI AO), (nI AB), (nI K), 0, 0, 0, se, ce, ad, sh, kp, nu) := by
  intro post h
  obtain ⟨hn1, hn9⟩ := te_n1 p
  have hn := hn9 hp
  unfold wpX_runPlain
  refine te_xgreat p 1 e0 rfl (by omega) (by omega) ?_
  refine nm_r (te_m12 R) (nm_r (nI_add (12 * R) 12) (nm_r (nI_add (12 * R) C) (br_f (by decide) (br_f (by decide) (br_f (by decide) (br_f (by decide) (br_f (by decide) (br_f (by decide) (br_f (by decide) (br_f (by decide) (br_f (by decide) (br_f (by decide) (br_t rfl ?_)))))))))))))
  obtain ⟨hq1, hq9⟩ := te_n1 q
  have hqq := hq9 hq
  unfold wpX_moveToPlace
  refine te_xgreat p 1 e0 rfl (by omega) (by omega) ?_
  refine te_xgreat q 1 e1 rfl (by omega) (by omega) ?_
  refine te_xless ((te_max p 1) - 1) 5 (te_ns1 hn1) rfl (by omega) (by omega) ?_
  refine te_xless (te_max q 1 - 1) 11 (te_ns1 hq1) rfl (by omega) (by omega) ?_
  exact h
theorem te_xr74 (hR : R < 6) (hC : C < 12) (hP : P < 8) (hTB : T ≤ B) (hB : B < 6) (hK : K ≤ 8) (hp : p ≤ 99) (hq : q ≤ 99) (e0 : nu 0 = nI p) (e1 : nu 1 = nI q) : te_To (fun t => wpX_runPlain t ((nI R), (nI C), (nI P), (nI T), (nI B), ins, wr, ot, wt, (nI SR), (nI SC), (nI SP), (nI AR), (nI AC), (nI AO), (nI AB), (nI K), 0, 0, 0, se, ce, ad, sh, kp, nu) 74) ((nI R), (nI C), (nI P), (nI T), (nI B), ins, wr, ot, 0, (nI SR), (nI SC), (nI SP), (nI AR), (nI AC), (nI AO), (nI AB), (nI K), 0, 0, 0, se, (te_er p 0 72 (12 * R + C) ce), ad, sh, kp, nu) := by
  intro post h
  obtain ⟨hn1, hn9⟩ := te_n1 p
  have hn := hn9 hp
  unfold wpX_runPlain
  refine te_xgreat p 1 e0 rfl (by omega) (by omega) ?_
  refine nm_r (te_m12 R) (nm_r (nI_add (12 * R) 12) (nm_r (nI_add (12 * R) C) (br_f (by decide) (br_f (by decide) (br_f (by decide) (br_f (by decide) (br_f (by decide) (br_f (by decide) (br_f (by decide) (br_f (by decide) (br_f (by decide) (br_f (by decide) (br_f (by decide) (br_f (by decide) (br_t rfl ?_)))))))))))))))
  refine te_xerase 0 72 rfl rfl hR hC hp e0 (by omega) (by omega) (by omega) ?_
  exact h
theorem te_xr75 (hR : R < 6) (hC : C < 12) (hP : P < 8) (hTB : T ≤ B) (hB : B < 6) (hK : K ≤ 8) (hp : p ≤ 99) (hq : q ≤ 99) (e0 : nu 0 = nI p) (e1 : nu 1 = nI q) : te_To (fun t => wpX_runPlain t ((nI R), (nI C), (nI P), (nI T), (nI B), ins, wr, ot, wt, (nI SR), (nI SC), (nI SP), (nI AR), (nI AC), (nI AO), (nI AB), (nI K), 0, 0, 0, se, ce, ad, sh, kp, nu) 75) ((nI R), (nI C), (nI P), (nI T), (nI B), ins, wr, ot, 0, (nI SR), (nI SC), (nI SP), (nI AR), (nI AC), (nI AO), (nI AB), (nI K), 0, 0, 0, se, (te_er p (12 * R) (12 * R + 12) (12 * R + C) ce), ad, sh, kp, nu) := by
  intro post h
  obtain ⟨hn1, hn9⟩ := te_n1 p
  have hn := hn9 hp
  unfold wpX_runPlain
  refine te_xgreat p 1 e0 rfl (by omega) (by omega) ?_
  refine nm_r (te_m12 R) (nm_r (nI_add (12 * R) 12) (nm_r (nI_add (12 * R) C) (br_f (by decide) (br_f (by decide) (br_f (by decide) (br_f (by decide) (br_f (by decide) (br_f (by decide) (br_f (by decide) (br_f (by decide) (br_f (by decide) (br_f (by decide) (br_f (by decide) (br_f (by decide) (br_f (by decide) (br_t rfl ?_))))))))))))))))
  refine te_xerase (12 * R) (12 * R + 12) rfl rfl hR hC hp e0 (by omega) (by omega) (by omega) ?_
  exact h
theorem te_xr88 (hR : R < 6) (hC : C < 12) (hP : P < 8) (hTB : T ≤ B) (hB : B < 6) (hK : K ≤ 8) (hp : p ≤ 99) (hq : q ≤ 99) (e0 : nu 0 = nI p) (e1 : nu 1 = nI q) : te_To (fun t => wpX_runPlain t ((nI R), (nI C), (nI P), (nI T), (nI B), ins, wr, ot, wt, (nI SR), (nI SC), (nI SP), (nI AR), (nI AC), (nI AO), (nI AB), (nI K), 0, 0, 0, se, ce, ad, sh, kp, nu) 88) ((nI R), (nI C), (nI P), (nI T), (nI B), ins, wr, ot, 0, (nI SR), (nI SC), (nI SP), (nI AR), (nI AC), (nI AO), (nI AB), (nI K), 0, 0, 0, se, (te_cl ce (12 * R + C) (12 * R + te_min (C + (te_max p 1)) 12)), ad, sh, kp, nu) := by
  intro post h
  obtain ⟨hn1, hn9⟩ := te_n1 p
  have hn := hn9 hp
  unfold wpX_runPlain
  refine te_xgreat p 1 e0 rfl (by omega) (by omega) ?_
  refine nm_r (te_m12 R) (nm_r (nI_add (12 * R) 12) (nm_r (nI_add (12 * R) C) (br_f (by decide) (br_f (by decide) (br_f (by decide) (br_f (by decide) (br_f (by decide) (br_f (by decide) (br_f (by decide) (br_f (by decide) (br_f (by decide) (br_f (by decide) (br_f (by decide) (br_f (by decide) (br_f (by decide) (br_f (by decide) (br_f (by decide) (br_f (by decide) (br_f (by decide) (br_f (by decide) (br_f (by decide) (br_f (by decide) (br_f (by decide) (br_f (by decide) (br_f (by decide) (br_f (by decide) (br_f (by decide) (br_f (by decide) (br_t rfl ?_)))))))))))))))))))))))))))))
  have hm : te_min (C + (te_max p 1)) 12 ≤ 12 ∧ C ≤ te_min (C + (te_max p 1)) 12 := by unfold te_min; split <;> omega
  unfold wpX_eraseSome
  refine nm_r (te_m12 R) ?_
  refine te_xless (C + (te_max p 1)) 12 (nI_add _ _) rfl (by omega) (by omega) ?_
  refine te_xclear (12 * R + C) (12 * R + te_min (C + (te_max p 1)) 12) (nI_add _ _) (nI_add _ _) (by omega) (by omega) ?_
  exact h
theorem te_xr80 (hR : R < 6) (hC : C < 12) (hP : P < 8) (hTB : T ≤ B) (hB : B < 6) (hK : K ≤ 8) (hp : p ≤ 99) (hq : q ≤ 99) (e0 : nu 0 = nI p) (e1 : nu 1 = nI q) : te_To (fun t => wpX_runPlain t ((nI R), (nI C), (nI P), (nI T), (nI B), ins, wr, ot, wt, (nI SR), (nI SC), (nI SP), (nI AR), (nI AC), (nI AO), (nI AB), (nI K), 0, 0, 0, se, ce, ad, sh, kp, nu) 80) ((nI R), (nI C), (nI P), (nI T), (nI B), ins, wr, ot, 0, (nI SR), (nI SC), (nI SP), (nI AR), (nI AC), (nI AO), (nI AB), (nI K), 0, 0, 0, se, (te_mb ce (12 * R + C) (12 * R + 12) (te_max p 1)), ad, sh, kp, nu) := by
  intro post h
  obtain ⟨hn1, hn9⟩ := te_n1 p
  have hn := hn9 hp
  unfold wpX_runPlain
  refine te_xgreat p 1 e0 rfl (by omega) (by omega) ?_
  refine nm_r (te_m12 R) (nm_r (nI_add (12 * R) 12) (nm_r (nI_add (12 * R) C) (br_f (by decide) (br_f (by decide) (br_f (by decide) (br_f (by decide) (br_f (by decide) (br_f (by decide) (br_f (by decide) (br_f (by decide) (br_f (by decide) (br_f (by decide) (br_f (by decide) (br_f (by decide) (br_f (by decide) (br_f (by decide) (br_f (by decide) (br_f (by decide) (br_f (by decide) (br_f (by decide) (br_t rfl ?_)))))))))))))))))))))
  refine te_xmoveBack (12 * R + C) (12 * R + 12) (te_max p 1) rfl rfl rfl (by omega) (by omega) (by omega) (by omega) ?_
  exact h
theorem te_xr64 (hR : R < 6) (hC : C < 12) (hP : P < 8) (hTB : T ≤ B) (hB : B < 6) (hK : K ≤ 8) (hp : p ≤ 99) (hq : q ≤ 99) (e0 : nu 0 = nI p) (e1 : nu 1 = nI q) : te_To (fun t => wpX_runPlain t ((nI R), (nI C), (nI P), (nI T), (nI B), ins, wr, ot, wt, (nI SR), (nI SC), (nI SP), (nI AR), (nI AC), (nI AO), (nI AB), (nI K), 0, 0, 0, se, ce, ad, sh, kp, nu) 64) ((nI R), (nI C), (nI P), (nI T), (nI B), ins, wr, ot, 0, (nI SR), (nI SC), (nI SP), (nI AR), (nI AC), (nI AO), (nI AB), (nI K), 0, 0, 0, se, (te_mo ce (12 * R + C) (12 * R + 12) (te_max p 1)), ad, sh, kp, nu) := by
  intro post h
  obtain ⟨hn1, hn9⟩ := te_n1 p
  have hn := hn9 hp
  unfold wpX_runPlain
  refine te_xgreat p 1 e0 rfl (by omega) (by omega) ?_
  refine nm_r (te_m12 R) (nm_r (nI_add (12 * R) 12) (nm_r (nI_add (12 * R) C) (br_f (by decide) (br_f (by decide) (br_t rfl ?_)))))
  refine te_xmoveOn (12 * R + C) (12 * R + 12) (te_max p 1) rfl rfl rfl (by omega) (by omega) (by omega) (by omega) ?_
  exact h
theorem te_xr76 (hR : R < 6) (hC : C < 12) (hP : P < 8) (hTB : T ≤ B) (hB : B < 6) (hK : K ≤ 8) (hp : p ≤ 99) (hq : q ≤ 99) (e0 : nu 0 = nI p) (e1 : nu 1 = nI q) (hT : T ≤ R) (hRB : R ≤ B) : te_To (fun t => wpX_runPlain t ((nI R), (nI C), (nI P), (nI T), (nI B), ins, wr, ot, wt, (nI SR), (nI SC), (nI SP), (nI AR), (nI AC), (nI AO), (nI AB), (nI K), 0, 0, 0, se, ce, ad, sh, kp, nu) 76) ((nI R), 0, (nI P), (nI T), (nI B), ins, wr, ot, 0, (nI SR), (nI SC), (nI SP), (nI AR), (nI AC), (nI AO), (nI AB), (nI K), 0, 0, 0, se, (te_mo ce (12 * R) (12 * (B + 1)) (12 * (te_max p 1))), ad, sh, kp, nu) := by
  intro post h
  obtain ⟨hn1, hn9⟩ := te_n1 p
  have hn := hn9 hp
  unfold wpX_runPlain
  refine te_xgreat p 1 e0 rfl (by omega) (by omega) ?_
  refine nm_r (te_m12 R) (nm_r (nI_add (12 * R) 12) (nm_r (nI_add (12 * R) C) (br_f (by decide) (br_f (by decide) (br_f (by decide) (br_f (by decide) (br_f (by decide) (br_f (by decide) (br_f (by decide) (br_f (by decide) (br_f (by decide) (br_f (by decide) (br_f (by decide) (br_f (by decide) (br_f (by decide) (br_f (by decide) (br_t rfl ?_)))))))))))))))))
  refine te_xputInRows rfl hT hRB hB (by omega) (by omega) ?_
  exact h
theorem te_xr76o (hR : R < 6) (hC : C < 12) (hP : P < 8) (hTB : T ≤ B) (hB : B < 6) (hK : K ≤ 8) (hp : p ≤ 99) (hq : q ≤ 99) (e0 : nu 0 = nI p) (e1 : nu 1 = nI q) (hO : R < T ∨ B < R) : te_To (fun t => wpX_runPlain t ((nI R), (nI C), (nI P), (nI T), (nI B), ins, wr, ot, wt, (nI SR), (nI SC), (nI SP), (nI AR), (nI AC), (nI AO), (nI AB), (nI K), 0, 0, 0, se, ce, ad, sh, kp, nu) 76) ((nI R), (nI C), (nI P), (nI T), (nI B), ins, wr, ot, 0, (nI SR), (nI SC), (nI SP), (nI AR), (nI AC), (nI AO), (nI AB), (nI K), 0, 0, 0, se, ce, ad, sh, kp, nu) := by
  intro post h
  obtain ⟨hn1, hn9⟩ := te_n1 p
  have hn := hn9 hp
  unfold wpX_runPlain
  refine te_xgreat p 1 e0 rfl (by omega) (by omega) ?_
  refine nm_r (te_m12 R) (nm_r (nI_add (12 * R) 12) (nm_r (nI_add (12 * R) C) (br_f (by decide) (br_f (by decide) (br_f (by decide) (br_f (by decide) (br_f (by decide) (br_f (by decide) (br_f (by decide) (br_f (by decide) (br_f (by decide) (br_f (by decide) (br_f (by decide) (br_f (by decide) (br_f (by decide) (br_f (by decide) (br_t rfl ?_)))))))))))))))))
  refine te_xputInRowsO hO hR (by omega) hB ?_
  exact h
theorem te_xr77 (hR : R < 6) (hC : C < 12) (hP : P < 8) (hTB : T ≤ B) (hB : B < 6) (hK : K ≤ 8) (hp : p ≤ 99) (hq : q ≤ 99) (e0 : nu 0 = nI p) (e1 : nu 1 = nI q) (hT : T ≤ R) (hRB : R ≤ B) : te_To (fun t => wpX_runPlain t ((nI R), (nI C), (nI P), (nI T), (nI B), ins, wr, ot, wt, (nI SR), (nI SC), (nI SP), (nI AR), (nI AC), (nI AO), (nI AB), (nI K), 0, 0, 0, se, ce, ad, sh, kp, nu) 77) ((nI R), 0, (nI P), (nI T), (nI B), ins, wr, ot, 0, (nI SR), (nI SC), (nI SP), (nI AR), (nI AC), (nI AO), (nI AB), (nI K), 0, 0, 0, se, (te_mb ce (12 * R) (12 * (B + 1)) (12 * (te_max p 1))), ad, sh, kp, nu) := by
  intro post h
  obtain ⟨hn1, hn9⟩ := te_n1 p
  have hn := hn9 hp
  unfold wpX_runPlain
  refine te_xgreat p 1 e0 rfl (by omega) (by omega) ?_
  refine nm_r (te_m12 R) (nm_r (nI_add (12 * R) 12) (nm_r (nI_add (12 * R) C) (br_f (by decide) (br_f (by decide) (br_f (by decide) (br_f (by decide) (br_f (by decide) (br_f (by decide) (br_f (by decide) (br_f (by decide) (br_f (by decide) (br_f (by decide) (br_f (by decide) (br_f (by decide) (br_f (by decide) (br_f (by decide) (br_f (by decide) (br_t rfl ?_))))))))))))))))))
  refine te_xtakeOutRows rfl hT hRB hB (by omega) (by omega) ?_
  exact h
theorem te_xr77o (hR : R < 6) (hC : C < 12) (hP : P < 8) (hTB : T ≤ B) (hB : B < 6) (hK : K ≤ 8) (hp : p ≤ 99) (hq : q ≤ 99) (e0 : nu 0 = nI p) (e1 : nu 1 = nI q) (hO : R < T ∨ B < R) : te_To (fun t => wpX_runPlain t ((nI R), (nI C), (nI P), (nI T), (nI B), ins, wr, ot, wt, (nI SR), (nI SC), (nI SP), (nI AR), (nI AC), (nI AO), (nI AB), (nI K), 0, 0, 0, se, ce, ad, sh, kp, nu) 77) ((nI R), (nI C), (nI P), (nI T), (nI B), ins, wr, ot, 0, (nI SR), (nI SC), (nI SP), (nI AR), (nI AC), (nI AO), (nI AB), (nI K), 0, 0, 0, se, ce, ad, sh, kp, nu) := by
  intro post h
  obtain ⟨hn1, hn9⟩ := te_n1 p
  have hn := hn9 hp
  unfold wpX_runPlain
  refine te_xgreat p 1 e0 rfl (by omega) (by omega) ?_
  refine nm_r (te_m12 R) (nm_r (nI_add (12 * R) 12) (nm_r (nI_add (12 * R) C) (br_f (by decide) (br_f (by decide) (br_f (by decide) (br_f (by decide) (br_f (by decide) (br_f (by decide) (br_f (by decide) (br_f (by decide) (br_f (by decide) (br_f (by decide) (br_f (by decide) (br_f (by decide) (br_f (by decide) (br_f (by decide) (br_f (by decide) (br_t rfl ?_))))))))))))))))))
  refine te_xtakeOutRowsO hO hR (by omega) hB ?_
  exact h
theorem te_xr83 (hR : R < 6) (hC : C < 12) (hP : P < 8) (hTB : T ≤ B) (hB : B < 6) (hK : K ≤ 8) (hp : p ≤ 99) (hq : q ≤ 99) (e0 : nu 0 = nI p) (e1 : nu 1 = nI q) : te_To (fun t => wpX_runPlain t ((nI R), (nI C), (nI P), (nI T), (nI B), ins, wr, ot, wt, (nI SR), (nI SC), (nI SP), (nI AR), (nI AC), (nI AO), (nI AB), (nI K), 0, 0, 0, se, ce, ad, sh, kp, nu) 83) ((nI R), (nI C), (nI P), (nI T), (nI B), ins, wr, ot, 0, (nI SR), (nI SC), (nI SP), (nI AR), (nI AC), (nI AO), (nI AB), (nI (te_sn (te_q ot T) T B (te_max p 1) K ce kp).1), 0, 0, 0, se, ((te_sn (te_q ot T) T B (te_max p 1) K ce kp).2.1), ad, sh, ((te_sn (te_q ot T) T B (te_max p 1) K ce kp).2.2), nu) := by
  intro post h
  obtain ⟨hn1, hn9⟩ := te_n1 p
  have hn := hn9 hp
  unfold wpX_runPlain
  refine te_xgreat p 1 e0 rfl (by omega) (by omega) ?_
  refine nm_r (te_m12 R) (nm_r (nI_add (12 * R) 12) (nm_r (nI_add (12 * R) C) (br_f (by decide) (br_f (by decide) (br_f (by decide) (br_f (by decide) (br_f (by decide) (br_f (by decide) (br_f (by decide) (br_f (by decide) (br_f (by decide) (br_f (by decide) (br_f (by decide) (br_f (by decide) (br_f (by decide) (br_f (by decide) (br_f (by decide) (br_f (by decide) (br_f (by decide) (br_f (by decide) (br_f (by decide) (br_f (by decide) (br_f (by decide) (br_t rfl ?_))))))))))))))))))))))))
  refine te_xscrollUp (te_max p 1) rfl hTB hB (by omega) hK ?_
  exact h
theorem te_xr84 (hR : R < 6) (hC : C < 12) (hP : P < 8) (hTB : T ≤ B) (hB : B < 6) (hK : K ≤ 8) (hp : p ≤ 99) (hq : q ≤ 99) (e0 : nu 0 = nI p) (e1 : nu 1 = nI q) : te_To (fun t => wpX_runPlain t ((nI R), (nI C), (nI P), (nI T), (nI B), ins, wr, ot, wt, (nI SR), (nI SC), (nI SP), (nI AR), (nI AC), (nI AO), (nI AB), (nI K), 0, 0, 0, se, ce, ad, sh, kp, nu) 84) ((nI R), (nI C), (nI P), (nI T), (nI B), ins, wr, ot, 0, (nI SR), (nI SC), (nI SP), (nI AR), (nI AC), (nI AO), (nI AB), (nI K), 0, 0, 0, se, (te_mo ce (12 * T) (12 * (B + 1)) (12 * (te_max p 1))), ad, sh, kp, nu) := by
  intro post h
  obtain ⟨hn1, hn9⟩ := te_n1 p
  have hn := hn9 hp
  unfold wpX_runPlain
  refine te_xgreat p 1 e0 rfl (by omega) (by omega) ?_
  refine nm_r (te_m12 R) (nm_r (nI_add (12 * R) 12) (nm_r (nI_add (12 * R) C) (br_f (by decide) (br_f (by decide) (br_f (by decide) (br_f (by decide) (br_f (by decide) (br_f (by decide) (br_f (by decide) (br_f (by decide) (br_f (by decide) (br_f (by decide) (br_f (by decide) (br_f (by decide) (br_f (by decide) (br_f (by decide) (br_f (by decide) (br_f (by decide) (br_f (by decide) (br_f (by decide) (br_f (by decide) (br_f (by decide) (br_f (by decide) (br_f (by decide) (br_t rfl ?_)))))))))))))))))))))))))
  refine te_xscrollDown (te_max p 1) rfl hTB hB (by omega) (by omega) ?_
  exact h
theorem te_xsr {post : SX → Prop} {st ma mk : Int32} (hR : R < 6) (hC : C < 12) (hP : P < 8) (hTB : T ≤ B) (hB : B < 6) (hK : K ≤ 8) (hp : p ≤ 99) (hq : q ≤ 99) (e0 : nu 0 = nI p) (e1 : nu 1 = nI q) (h1 : (te_max p 1) < te_q6 q) (h6 : te_q6 q ≤ 6) (h : post (0, 0, (nI P), (nI ((te_max p 1) - 1)), (nI (te_q6 q - 1)), ins, wr, ot, wt, (nI SR), (nI SC), (nI SP), (nI AR), (nI AC), (nI AO), (nI AB), (nI K), st, ma, mk, se, ce, ad, sh, kp, nu)) : wpX_setRegion post ((nI R), (nI C), (nI P), (nI T), (nI B), ins, wr, ot, wt, (nI SR), (nI SC), (nI SP), (nI AR), (nI AC), (nI AO), (nI AB), (nI K), st, ma, mk, se, ce, ad, sh, kp, nu) := by
  obtain ⟨hn1, hn9⟩ := te_n1 p
  have hn := hn9 hp
  unfold wpX_setRegion
  refine te_xgreat p 1 e0 rfl (by omega) (by omega) ?_
  have G : wX_setRegion_31 post (nI (te_max p 1)) (nI (te_q6 q)) (nI R) (nI C) (nI P) (nI T) (nI B) ins wr ot wt (nI SR) (nI SC) (nI SP) (nI AR) (nI AC) (nI AO) (nI AB) (nI K) st ma mk se ce ad sh kp nu :=
    br_f (nI_ge h1 (by omega)) (br_f (nI_nlt (b := te_q6 q) (a := 6) h6 (by omega)) (nm_r (te_ns1 hn1) (nm_r (te_ns1 (by omega)) h)))
  rw [e1]
  unfold te_q6 at G
  by_cases h0 : q = 0
  · rw [if_pos h0] at G
    exact br_t (by rw [h0, nI_0]) G
  · rw [if_neg h0] at G
    exact br_f (nI_ne0 (by omega) (by omega)) G
theorem te_xsrO {post : SX → Prop} {st ma mk : Int32} (hR : R < 6) (hC : C < 12) (hP : P < 8) (hTB : T ≤ B) (hB : B < 6) (hK : K ≤ 8) (hp : p ≤ 99) (hq : q ≤ 99) (e0 : nu 0 = nI p) (e1 : nu 1 = nI q) (hO : te_q6 q ≤ (te_max p 1) ∨ 6 < te_q6 q) (h : post ((nI R), (nI C), (nI P), (nI T), (nI B), ins, wr, ot, wt, (nI SR), (nI SC), (nI SP), (nI AR), (nI AC), (nI AO), (nI AB), (nI K), st, ma, mk, se, ce, ad, sh, kp, nu)) : wpX_setRegion post ((nI R), (nI C), (nI P), (nI T), (nI B), ins, wr, ot, wt, (nI SR), (nI SC), (nI SP), (nI AR), (nI AC), (nI AO), (nI AB), (nI K), st, ma, mk, se, ce, ad, sh, kp, nu) := by
  obtain ⟨hn1, hn9⟩ := te_n1 p
  have hn := hn9 hp
  have hq6 : te_q6 q ≤ 99 := by unfold te_q6; split <;> omega
  unfold wpX_setRegion
  refine te_xgreat p 1 e0 rfl (by omega) (by omega) ?_
  have G : wX_setRegion_31 post (nI (te_max p 1)) (nI (te_q6 q)) (nI R) (nI C) (nI P) (nI T) (nI B) ins wr ot wt (nI SR) (nI SC) (nI SP) (nI AR) (nI AC) (nI AO) (nI AB) (nI K) st ma mk se ce ad sh kp nu := by
    by_cases h1 : te_q6 q ≤ (te_max p 1)
    · exact br_t (nI_le h1 (by omega)) h
    · exact br_f (nI_ge (by omega) (by omega)) (br_t (nI_lt (a := 6) (by omega) (by omega)) h)
  rw [e1]
  unfold te_q6 at G
  by_cases h0 : q = 0
  · rw [if_pos h0] at G
    exact br_t (by rw [h0, nI_0]) G
  · rw [if_neg h0] at G
    exact br_f (nI_ne0 (by omega) (by omega)) G
theorem te_xr114 (hR : R < 6) (hC : C < 12) (hP : P < 8) (hTB : T ≤ B) (hB : B < 6) (hK : K ≤ 8) (hp : p ≤ 99) (hq : q ≤ 99) (e0 : nu 0 = nI p) (e1 : nu 1 = nI q) (h1 : (te_max p 1) < te_q6 q) (h6 : te_q6 q ≤ 6) : te_To (fun t => wpX_runPlain t ((nI R), (nI C), (nI P), (nI T), (nI B), ins, wr, ot, wt, (nI SR), (nI SC), (nI SP), (nI AR), (nI AC), (nI AO), (nI AB), (nI K), 0, 0, 0, se, ce, ad, sh, kp, nu) 114) (0, 0, (nI P), (nI ((te_max p 1) - 1)), (nI (te_q6 q - 1)), ins, wr, ot, 0, (nI SR), (nI SC), (nI SP), (nI AR), (nI AC), (nI AO), (nI AB), (nI K), 0, 0, 0, se, ce, ad, sh, kp, nu) := by
  intro post h
  obtain ⟨hn1, hn9⟩ := te_n1 p
  have hn := hn9 hp
  unfold wpX_runPlain
  refine te_xgreat p 1 e0 rfl (by omega) (by omega) ?_
  refine nm_r (te_m12 R) (nm_r (nI_add (12 * R) 12) (nm_r (nI_add (12 * R) C) (br_f (by decide) (br_f (by decide) (br_f (by decide) (br_f (by decide) (br_f (by decide) (br_f (by decide) (br_f (by decide) (br_f (by decide) (br_f (by decide) (br_f (by decide) (br_f (by decide) (br_f (by decide) (br_f (by decide) (br_f (by decide) (br_f (by decide) (br_f (by decide) (br_f (by decide) (br_f (by decide) (br_f (by decide) (br_f (by decide) (br_f (by decide) (br_f (by decide) (br_f (by decide) (br_f (by decide) (br_f (by decide) (br_f (by decide) (br_f (by decide) (br_f (by decide) (br_f (by decide) (br_f (by decide) (br_f (by decide) (br_f (by decide) (br_f (by decide) (br_f (by decide) (br_f (by decide) (br_f (by decide) (br_f (by decide) (br_f (by decide) (br_f (by decide) (br_f (by decide) (br_f (by decide) (br_f (by decide) (br_f (by decide) (br_f (by decide) (br_f (by decide) (br_f (by decide) (br_f (by decide) (br_f (by decide) (br_f (by decide) (br_f (by decide) (br_f (by decide) (br_f (by decide) (br_t rfl ?_)))))))))))))))))))))))))))))))))))))))))))))))))))))))
  refine te_xsr hR hC hP hTB hB hK hp hq e0 e1 h1 h6 ?_
  exact h
theorem te_xr114o (hR : R < 6) (hC : C < 12) (hP : P < 8) (hTB : T ≤ B) (hB : B < 6) (hK : K ≤ 8) (hp : p ≤ 99) (hq : q ≤ 99) (e0 : nu 0 = nI p) (e1 : nu 1 = nI q) (hO : te_q6 q ≤ (te_max p 1) ∨ 6 < te_q6 q) : te_To (fun t => wpX_runPlain t ((nI R), (nI C), (nI P), (nI T), (nI B), ins, wr, ot, wt, (nI SR), (nI SC), (nI SP), (nI AR), (nI AC), (nI AO), (nI AB), (nI K), 0, 0, 0, se, ce, ad, sh, kp, nu) 114) ((nI R), (nI C), (nI P), (nI T), (nI B), ins, wr, ot, 0, (nI SR), (nI SC), (nI SP), (nI AR), (nI AC), (nI AO), (nI AB), (nI K), 0, 0, 0, se, ce, ad, sh, kp, nu) := by
  intro post h
  obtain ⟨hn1, hn9⟩ := te_n1 p
  have hn := hn9 hp
  unfold wpX_runPlain
  refine te_xgreat p 1 e0 rfl (by omega) (by omega) ?_
  refine nm_r (te_m12 R) (nm_r (nI_add (12 * R) 12) (nm_r (nI_add (12 * R) C) (br_f (by decide) (br_f (by decide) (br_f (by decide) (br_f (by decide) (br_f (by decide) (br_f (by decide) (br_f (by decide) (br_f (by decide) (br_f (by decide) (br_f (by decide) (br_f (by decide) (br_f (by decide) (br_f (by decide) (br_f (by decide) (br_f (by decide) (br_f (by decide) (br_f (by decide) (br_f (by decide) (br_f (by decide) (br_f (by decide) (br_f (by decide) (br_f (by decide) (br_f (by decide) (br_f (by decide) (br_f (by decide) (br_f (by decide) (br_f (by decide) (br_f (by decide) (br_f (by decide) (br_f (by decide) (br_f (by decide) (br_f (by decide) (br_f (by decide) (br_f (by decide) (br_f (by decide) (br_f (by decide) (br_f (by decide) (br_f (by decide) (br_f (by decide) (br_f (by decide) (br_f (by decide) (br_f (by decide) (br_f (by decide) (br_f (by decide) (br_f (by decide) (br_f (by decide) (br_f (by decide) (br_f (by decide) (br_f (by decide) (br_f (by decide) (br_f (by decide) (br_f (by decide) (br_t rfl ?_)))))))))))))))))))))))))))))))))))))))))))))))))))))))
  refine te_xsrO hR hC hP hTB hB hK hp hq e0 e1 hO ?_
  exact h
theorem te_xr104 (hR : R < 6) (hC : C < 12) (hP : P < 8) (hTB : T ≤ B) (hB : B < 6) (hK : K ≤ 8) (hp : p ≤ 99) (hq : q ≤ 99) (e0 : nu 0 = nI p) (e1 : nu 1 = nI q) (h4 : p = 4) : te_To (fun t => wpX_runPlain t ((nI R), (nI C), (nI P), (nI T), (nI B), ins, wr, ot, wt, (nI SR), (nI SC), (nI SP), (nI AR), (nI AC), (nI AO), (nI AB), (nI K), 0, 0, 0, se, ce, ad, sh, kp, nu) 104) ((nI R), (nI C), (nI P), (nI T), (nI B), 1, wr, ot, wt, (nI SR), (nI SC), (nI SP), (nI AR), (nI AC), (nI AO), (nI AB), (nI K), 0, 0, 0, se, ce, ad, sh, kp, nu) := by
  intro post h
  obtain ⟨hn1, hn9⟩ := te_n1 p
  have hn := hn9 hp
  unfold wpX_runPlain
  refine te_xgreat p 1 e0 rfl (by omega) (by omega) ?_
  refine nm_r (te_m12 R) (nm_r (nI_add (12 * R) 12) (nm_r (nI_add (12 * R) C) (br_f (by decide) (br_f (by decide) (br_f (by decide) (br_f (by decide) (br_f (by decide) (br_f (by decide) (br_f (by decide) (br_f (by decide) (br_f (by decide) (br_f (by decide) (br_f (by decide) (br_f (by decide) (br_f (by decide) (br_f (by decide) (br_f (by decide) (br_f (by decide) (br_f (by decide) (br_f (by decide) (br_f (by decide) (br_f (by decide) (br_f (by decide) (br_f (by decide) (br_f (by decide) (br_f (by decide) (br_f (by decide) (br_f (by decide) (br_f (by decide) (br_f (by decide) (br_f (by decide) (br_f (by decide) (br_f (by decide) (br_f (by decide) (br_f (by decide) (br_f (by decide) (br_f (by decide) (br_f (by decide) (br_f (by decide) (br_f (by decide) (br_f (by decide) (br_f (by decide) (br_f (by decide) (br_f (by decide) (br_t rfl ?_)))))))))))))))))))))))))))))))))))))))))))))
  unfold wpX_switchInsert
  refine br_t (e0.trans (congrArg nI h4)) ⟨te_nb te_1, te_fb te_1, ?_⟩
  exact h
theorem te_xr104o (hR : R < 6) (hC : C < 12) (hP : P < 8) (hTB : T ≤ B) (hB : B < 6) (hK : K ≤ 8) (hp : p ≤ 99) (hq : q ≤ 99) (e0 : nu 0 = nI p) (e1 : nu 1 = nI q) (h4 : p ≠ 4) : te_To (fun t => wpX_runPlain t ((nI R), (nI C), (nI P), (nI T), (nI B), ins, wr, ot, wt, (nI SR), (nI SC), (nI SP), (nI AR), (nI AC), (nI AO), (nI AB), (nI K), 0, 0, 0, se, ce, ad, sh, kp, nu) 104) ((nI R), (nI C), (nI P), (nI T), (nI B), ins, wr, ot, wt, (nI SR), (nI SC), (nI SP), (nI AR), (nI AC), (nI AO), (nI AB), (nI K), 0, 0, 0, se, ce, ad, sh, kp, nu) := by
  intro post h
  obtain ⟨hn1, hn9⟩ := te_n1 p
  have hn := hn9 hp
  unfold wpX_runPlain
  refine te_xgreat p 1 e0 rfl (by omega) (by omega) ?_
  refine nm_r (te_m12 R) (nm_r (nI_add (12 * R) 12) (nm_r (nI_add (12 * R) C) (br_f (by decide) (br_f (by decide) (br_f (by decide) (br_f (by decide) (br_f (by decide) (br_f (by decide) (br_f (by decide) (br_f (by decide) (br_f (by decide) (br_f (by decide) (br_f (by decide) (br_f (by decide) (br_f (by decide) (br_f (by decide) (br_f (by decide) (br_f (by decide) (br_f (by decide) (br_f (by decide) (br_f (by decide) (br_f (by decide) (br_f (by decide) (br_f (by decide) (br_f (by decide) (br_f (by decide) (br_f (by decide) (br_f (by decide) (br_f (by decide) (br_f (by decide) (br_f (by decide) (br_f (by decide) (br_f (by decide) (br_f (by decide) (br_f (by decide) (br_f (by decide) (br_f (by decide) (br_f (by decide) (br_f (by decide) (br_f (by decide) (br_f (by decide) (br_f (by decide) (br_f (by decide) (br_f (by decide) (br_t rfl ?_)))))))))))))))))))))))))))))))))))))))))))))
  unfold wpX_switchInsert
  refine br_f (fun z => te_ne (b := 4) h4 (by omega) (by omega) (e0.symm.trans z)) ?_
  exact h
theorem te_xr108 (hR : R < 6) (hC : C < 12) (hP : P < 8) (hTB : T ≤ B) (hB : B < 6) (hK : K ≤ 8) (hp : p ≤ 99) (hq : q ≤ 99) (e0 : nu 0 = nI p) (e1 : nu 1 = nI q) (h4 : p = 4) : te_To (fun t => wpX_runPlain t ((nI R), (nI C), (nI P), (nI T), (nI B), ins, wr, ot, wt, (nI SR), (nI SC), (nI SP), (nI AR), (nI AC), (nI AO), (nI AB), (nI K), 0, 0, 0, se, ce, ad, sh, kp, nu) 108) ((nI R), (nI C), (nI P), (nI T), (nI B), 0, wr, ot, wt, (nI SR), (nI SC), (nI SP), (nI AR), (nI AC), (nI AO), (nI AB), (nI K), 0, 0, 0, se, ce, ad, sh, kp, nu) := by
  intro post h
  obtain ⟨hn1, hn9⟩ := te_n1 p
  have hn := hn9 hp
  unfold wpX_runPlain
  refine te_xgreat p 1 e0 rfl (by omega) (by omega) ?_
  refine nm_r (te_m12 R) (nm_r (nI_add (12 * R) 12) (nm_r (nI_add (12 * R) C) (br_f (by decide) (br_f (by decide) (br_f (by decide) (br_f (by decide) (br_f (by decide) (br_f (by decide) (br_f (by decide) (br_f (by decide) (br_f (by decide) (br_f (by decide) (br_f (by decide) (br_f (by decide) (br_f (by decide) (br_f (by decide) (br_f (by decide) (br_f (by decide) (br_f (by decide) (br_f (by decide) (br_f (by decide) (br_f (by decide) (br_f (by decide) (br_f (by decide) (br_f (by decide) (br_f (by decide) (br_f (by decide) (br_f (by decide) (br_f (by decide) (br_f (by decide) (br_f (by decide) (br_f (by decide) (br_f (by decide) (br_f (by decide) (br_f (by decide) (br_f (by decide) (br_f (by decide) (br_f (by decide) (br_f (by decide) (br_f (by decide) (br_f (by decide) (br_f (by decide) (br_f (by decide) (br_f (by decide) (br_f (by decide) (br_f (by decide) (br_f (by decide) (br_f (by decide) (br_t rfl ?_)))))))))))))))))))))))))))))))))))))))))))))))))
  unfold wpX_switchInsert
  refine br_t (e0.trans (congrArg nI h4)) ⟨te_nb te_0, te_fb te_0, ?_⟩
  exact h
theorem te_xr108o (hR : R < 6) (hC : C < 12) (hP : P < 8) (hTB : T ≤ B) (hB : B < 6) (hK : K ≤ 8) (hp : p ≤ 99) (hq : q ≤ 99) (e0 : nu 0 = nI p) (e1 : nu 1 = nI q) (h4 : p ≠ 4) : te_To (fun t => wpX_runPlain t ((nI R), (nI C), (nI P), (nI T), (nI B), ins, wr, ot, wt, (nI SR), (nI SC), (nI SP), (nI AR), (nI AC), (nI AO), (nI AB), (nI K), 0, 0, 0, se, ce, ad, sh, kp, nu) 108) ((nI R), (nI C), (nI P), (nI T), (nI B), ins, wr, ot, wt, (nI SR), (nI SC), (nI SP), (nI AR), (nI AC), (nI AO), (nI AB), (nI K), 0, 0, 0, se, ce, ad, sh, kp, nu) := by
  intro post h
  obtain ⟨hn1, hn9⟩ := te_n1 p
  have hn := hn9 hp
  unfold wpX_runPlain
  refine te_xgreat p 1 e0 rfl (by omega) (by omega) ?_
  refine nm_r (te_m12 R) (nm_r (nI_add (12 * R) 12) (nm_r (nI_add (12 * R) C) (br_f (by decide) (br_f (by decide) (br_f (by decide) (br_f (by decide) (br_f (by decide) (br_f (by decide) (br_f (by decide) (br_f (by decide) (br_f (by decide) (br_f (by decide) (br_f (by decide) (br_f (by decide) (br_f (by decide) (br_f (by decide) (br_f (by decide) (br_f (by decide) (br_f (by decide) (br_f (by decide) (br_f (by decide) (br_f (by decide) (br_f (by decide) (br_f (by decide) (br_f (by decide) (br_f (by decide) (br_f (by decide) (br_f (by decide) (br_f (by decide) (br_f (by decide) (br_f (by decide) (br_f (by decide) (br_f (by decide) (br_f (by decide) (br_f (by decide) (br_f (by decide) (br_f (by decide) (br_f (by decide) (br_f (by decide) (br_f (by decide) (br_f (by decide) (br_f (by decide) (br_f (by decide) (br_f (by decide) (br_f (by decide) (br_f (by decide) (br_f (by decide) (br_f (by decide) (br_t rfl ?_)))))))))))))))))))))))))))))))))))))))))))))))))
  unfold wpX_switchInsert
  refine br_f (fun z => te_ne (b := 4) h4 (by omega) (by omega) (e0.symm.trans z)) ?_
  exact h
theorem te_xr109 {E : Nat} {v : Nat → Nat} (hR : R < 6) (hC : C < 12) (hP : P < 8) (hTB : T ≤ B) (hB : B < 6) (hK : K ≤ 8) (hp : p ≤ 99) (hq : q ≤ 99) (e0 : nu 0 = nI p) (e1 : nu 1 = nI q) (hE : E ≤ 4) (hv : ∀ j, j < 4 → v j ≤ 99 ∧ nu j = nI (v j)) : te_To (fun t => wpX_runPlain t ((nI R), (nI C), (nI P), (nI T), (nI B), ins, wr, ot, wt, (nI SR), (nI SC), (nI SP), (nI AR), (nI AC), (nI AO), (nI AB), (nI K), 0, 0, 0, (nI E), ce, ad, sh, kp, nu) 109) ((nI R), (nI C), (nI (te_pp v (te_min (E + 1) 4) 0 P)), (nI T), (nI B), ins, wr, ot, wt, (nI SR), (nI SC), (nI SP), (nI AR), (nI AC), (nI AO), (nI AB), (nI K), 0, 0, 0, (nI E), ce, ad, sh, kp, nu) := by
  intro post h
  unfold wpX_runPlain
  refine te_xgreat p 1 e0 rfl (by omega) (by omega) ?_
  refine nm_r (te_m12 R) (nm_r (nI_add (12 * R) 12) (nm_r (nI_add (12 * R) C) (br_f (by decide) (br_f (by decide) (br_f (by decide) (br_f (by decide) (br_f (by decide) (br_f (by decide) (br_f (by decide) (br_f (by decide) (br_f (by decide) (br_f (by decide) (br_f (by decide) (br_f (by decide) (br_f (by decide) (br_f (by decide) (br_f (by decide) (br_f (by decide) (br_f (by decide) (br_f (by decide) (br_f (by decide) (br_f (by decide) (br_f (by decide) (br_f (by decide) (br_f (by decide) (br_f (by decide) (br_f (by decide) (br_f (by decide) (br_f (by decide) (br_f (by decide) (br_f (by decide) (br_f (by decide) (br_f (by decide) (br_f (by decide) (br_f (by decide) (br_f (by decide) (br_f (by decide) (br_f (by decide) (br_f (by decide) (br_f (by decide) (br_f (by decide) (br_f (by decide) (br_f (by decide) (br_f (by decide) (br_f (by decide) (br_f (by decide) (br_f (by decide) (br_f (by decide) (br_f (by decide) (br_t rfl ?_))))))))))))))))))))))))))))))))))))))))))))))))))
  refine te_xchangePen hE hP hv ?_
  exact h
theorem te_xrN {x : Int32} (hR : R < 6) (hC : C < 12) (hP : P < 8) (hTB : T ≤ B) (hB : B < 6) (hK : K ≤ 8) (hp : p ≤ 99) (hq : q ≤ 99) (e0 : nu 0 = nI p) (e1 : nu 1 = nI q) (h64 : ¬ x = 64) (h65 : ¬ x = 65) (h66 : ¬ x = 66) (h67 : ¬ x = 67) (h68 : ¬ x = 68) (h71 : ¬ x = 71) (h72 : ¬ x = 72) (h74 : ¬ x = 74) (h75 : ¬ x = 75) (h76 : ¬ x = 76) (h77 : ¬ x = 77) (h80 : ¬ x = 80) (h83 : ¬ x = 83) (h84 : ¬ x = 84) (h88 : ¬ x = 88) (h100 : ¬ x = 100) (h104 : ¬ x = 104) (h108 : ¬ x = 108) (h109 : ¬ x = 109) (h114 : ¬ x = 114) : te_To (fun t => wpX_runPlain t ((nI R), (nI C), (nI P), (nI T), (nI B), ins, wr, ot, wt, (nI SR), (nI SC), (nI SP), (nI AR), (nI AC), (nI AO), (nI AB), (nI K), 0, 0, 0, se, ce, ad, sh, kp, nu) x) ((nI R), (nI C), (nI P), (nI T), (nI B), ins, wr, ot, wt, (nI SR), (nI SC), (nI SP), (nI AR), (nI AC), (nI AO), (nI AB), (nI K), 0, 0, 0, se, ce, ad, sh, kp, nu) := by
  intro post h
  unfold wpX_runPlain
  refine te_xgreat p 1 e0 rfl (by omega) (by omega) ?_
  refine nm_r (te_m12 R) (nm_r (nI_add (12 * R) 12) (nm_r (nI_add (12 * R) C) ?_))
  exact br_c (fun _ => h) (fun _ => br_c (fun _ => h) (fun _ => br_f h64 (br_f h65 (br_f h66 (br_f h67 (br_f h68 (br_c (fun _ => h) (fun _ => br_c (fun _ => h) (fun _ => br_f h71 (br_f h72 (br_c (fun _ => h) (fun _ => br_f h74 (br_f h75 (br_f h76 (br_f h77 (br_c (fun _ => h) (fun _ => br_c (fun _ => h) (fun _ => br_f h80 (br_c (fun _ => h) (fun _ => br_c (fun _ => h) (fun _ => br_f h83 (br_f h84 (br_c (fun _ => h) (fun _ => br_c (fun _ => h) (fun _ => br_c (fun _ => h) (fun _ => br_f h88 (br_c (fun _ => h) (fun _ => br_c (fun _ => h) (fun _ => br_c (fun _ => h) (fun _ => br_c (fun _ => h) (fun _ => br_c (fun _ => h) (fun _ => br_c (fun _ => h) (fun _ => br_c (fun _ => h) (fun _ => br_c (fun _ => h) (fun _ => br_c (fun _ => h) (fun _ => br_c (fun _ => h) (fun _ => br_c (fun _ => h) (fun _ => br_f h100 (br_c (fun _ => h) (fun _ => br_c (fun _ => h) (fun _ => br_c (fun _ => h) (fun _ => br_f h104 (br_c (fun _ => h) (fun _ => br_c (fun _ => h) (fun _ => br_c (fun _ => h) (fun _ => br_f h108 (br_f h109 (br_c (fun _ => h) (fun _ => br_c (fun _ => h) (fun _ => br_c (fun _ => h) (fun _ => br_c (fun _ => h) (fun _ => br_f h114 (trivial)))))))))))))))))))))))))))))))))))))))))))))))))))))
end
