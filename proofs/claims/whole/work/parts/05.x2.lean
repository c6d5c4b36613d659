/-! the component: what is put aside, the pen, what is shown -/
section
variable {post : SX → Prop} {r cc pn tp bo ins wr ot wt sr sc sp ar ac ao ab kc st ma mk se : Int32} {ce ad sh kp nu : Nat → Int32}
theorem te_xpa_L (h : post (0, 0, pn, 0, 5, ins, wr, ot, wt, sr, sc, sp, r, cc, tp, bo, kc, st, ma, mk, se, (te_cl ce 0 72), (te_cp ce ad 72), sh, kp, nu)) : ∀ g p : Nat, p + g = 72 → wX_putAside_2 post r cc pn tp bo ins wr ot wt sr sc sp ar ac ao ab kc st ma mk se (g + 1) (nI p) (te_cl ce 0 p) (te_cp ce ad p) sh kp nu := by
  intro g
  induction g with
  | zero =>
    intro p hp
    obtain rfl : p = 72 := by omega
    exact br_t (nI_le (a := 72) (b := 72) (by omega) (by omega)) h
  | succ g ih =>
    intro p hp
    refine br_f (nI_ge (b := 72) (by omega) (by omega)) ⟨vp_in_nI (by omega) (by omega), vp_in_nI (by omega) (by omega), nm_r ?_ ⟨vp_in_nI (by omega) (by omega), nm_r ?_ (nm_r (nI_1 p) (ih (p + 1) (by omega)))⟩⟩
    · rw [nI_clamp (by omega), te_clP]
      exact te_cpS ce ad p
    · rw [nI_clamp (by omega)]
      exact te_clS ce (Nat.zero_le p)
theorem te_xputAside (h : post (0, 0, pn, 0, 5, ins, wr, ot, wt, sr, sc, sp, r, cc, tp, bo, kc, st, ma, mk, se, (te_cl ce 0 72), (te_cp ce ad 72), sh, kp, nu)) : wpX_putAside post (r, cc, pn, tp, bo, ins, wr, ot, wt, sr, sc, sp, ar, ac, ao, ab, kc, st, ma, mk, se, ce, ad, sh, kp, nu) := by
  have H := te_xpa_L (ar := ar) (ac := ac) (ao := ao) (ab := ab) h 72 0 rfl
  rw [te_cl0 ce (Nat.le_refl 0), te_cp0] at H
  exact Exists.intro _ H
theorem te_xbb_L (h : post (ar, ac, pn, ao, ab, ins, wr, ot, wt, sr, sc, sp, ar, ac, ao, ab, kc, st, ma, mk, se, (te_cp ad ce 72), ad, sh, kp, nu)) : ∀ g p : Nat, p + g = 72 → wX_bringBack_2 post r cc pn tp bo ins wr ot wt sr sc sp ar ac ao ab kc st ma mk se (g + 1) (nI p) (te_cp ad ce p) ad sh kp nu := by
  intro g
  induction g with
  | zero =>
    intro p hp
    obtain rfl : p = 72 := by omega
    exact br_t (nI_le (a := 72) (b := 72) (by omega) (by omega)) h
  | succ g ih =>
    intro p hp
    refine br_f (nI_ge (b := 72) (by omega) (by omega)) ⟨vp_in_nI (by omega) (by omega), vp_in_nI (by omega) (by omega), nm_r ?_ (nm_r (nI_1 p) (ih (p + 1) (by omega)))⟩
    rw [nI_clamp (by omega)]
    exact te_cpS ad ce p
theorem te_xbringBack (h : post (ar, ac, pn, ao, ab, ins, wr, ot, wt, sr, sc, sp, ar, ac, ao, ab, kc, st, ma, mk, se, (te_cp ad ce 72), ad, sh, kp, nu)) : wpX_bringBack post (r, cc, pn, tp, bo, ins, wr, ot, wt, sr, sc, sp, ar, ac, ao, ab, kc, st, ma, mk, se, ce, ad, sh, kp, nu) := by
  have H := te_xbb_L (r := r) (cc := cc) (tp := tp) (bo := bo) h 72 0 rfl
  rw [te_cp0] at H
  exact Exists.intro _ H
/-- one number of m -/
theorem te_xcp_L {n : Nat} {v : Nat → Nat} (hn : n ≤ 4) (hv : ∀ j, j < 4 → v j ≤ 99 ∧ nu j = nI (v j)) : ∀ g i P : Nat, i + g = n → P < 8 → post (r, cc, (nI (te_pp v g i P)), tp, bo, ins, wr, ot, wt, sr, sc, sp, ar, ac, ao, ab, kc, st, ma, mk, se, ce, ad, sh, kp, nu) → wX_changePen_13 post (nI n) r cc tp bo ins wr ot wt sr sc sp ar ac ao ab kc st ma mk se ce ad sh kp nu (g + 1) (nI i) (nI P) := by
  intro g
  induction g with
  | zero =>
    intro i P hi hP h
    obtain rfl : i = n := by omega
    exact br_t (nI_le (Nat.le_refl _) (by omega)) h
  | succ g ih =>
    intro i P hi hP h
    obtain ⟨hv9, ev⟩ := hv i (by omega)
    have H := ih (i + 1) (te_pv P (v i)) (by omega) (te_pv8 hP) h
    obtain ⟨t1, t2, t4, t22, t24, t27, -, -, -⟩ := te_pvT ⟨P, hP⟩
    refine br_f (nI_ge (by omega) (by omega)) ⟨vp_in_nI (by omega) (by omega), nm_r (e' := nI (v i)) (by rw [nI_clamp (by omega)]; exact ev) ?_⟩
    unfold te_pv at H
    by_cases h0 : v i = 0
    · rw [if_pos h0] at H
      exact br_t (by rw [h0, nI_0]) (nm_r (nI_1 i) H)
    rw [if_neg h0] at H
    refine br_f (te_ne (b := 0) h0 (by omega) (by omega)) ?_
    by_cases h1 : v i = 1
    · rw [if_pos h1] at H
      exact br_t (congrArg nI h1) (nm_r t1 (nm_r (nI_1 i) H))
    rw [if_neg h1] at H
    refine br_f (te_ne (b := 1) h1 (by omega) (by omega)) ?_
    by_cases h4 : v i = 4
    · rw [if_pos h4] at H
      exact br_t (congrArg nI h4) (nm_r t2 (nm_r (nI_1 i) H))
    rw [if_neg h4] at H
    refine br_f (te_ne (b := 4) h4 (by omega) (by omega)) ?_
    by_cases h7 : v i = 7
    · rw [if_pos h7] at H
      exact br_t (congrArg nI h7) (nm_r t4 (nm_r (nI_1 i) H))
    rw [if_neg h7] at H
    refine br_f (te_ne (b := 7) h7 (by omega) (by omega)) ?_
    by_cases h22 : v i = 22
    · rw [if_pos h22] at H
      exact br_t (congrArg nI h22) (nm_r t22 (nm_r (nI_1 i) H))
    rw [if_neg h22] at H
    refine br_f (te_ne (b := 22) h22 (by omega) (by omega)) ?_
    by_cases h24 : v i = 24
    · rw [if_pos h24] at H
      exact br_t (congrArg nI h24) (nm_r t24 (nm_r (nI_1 i) H))
    rw [if_neg h24] at H
    refine br_f (te_ne (b := 24) h24 (by omega) (by omega)) ?_
    by_cases h27 : v i = 27
    · rw [if_pos h27] at H
      exact br_t (congrArg nI h27) (nm_r t27 (nm_r (nI_1 i) H))
    rw [if_neg h27] at H
    exact br_f (te_ne (b := 27) h27 (by omega) (by omega)) (nm_r (nI_1 i) H)
theorem te_xchangePen {E P : Nat} {v : Nat → Nat} (hE : E ≤ 4) (hP : P < 8) (hv : ∀ j, j < 4 → v j ≤ 99 ∧ nu j = nI (v j)) (h : post (r, cc, (nI (te_pp v (te_min (E + 1) 4) 0 P)), tp, bo, ins, wr, ot, wt, sr, sc, sp, ar, ac, ao, ab, kc, st, ma, mk, (nI E), ce, ad, sh, kp, nu)) : wpX_changePen post (r, cc, (nI P), tp, bo, ins, wr, ot, wt, sr, sc, sp, ar, ac, ao, ab, kc, st, ma, mk, (nI E), ce, ad, sh, kp, nu) := by
  unfold wpX_changePen
  refine te_xless (E + 1) 4 (nI_1 E) rfl (by omega) (by omega) ?_
  exact Exists.intro _ (te_xcp_L (te_minLe _ _) hv (te_min (E + 1) 4) 0 P (by omega) hP h)
theorem te_xrf_L {pst : Int32 → SX → Prop} (h : pst (nI (te_ct ce sh 72)) (r, cc, pn, tp, bo, ins, wr, ot, wt, sr, sc, sp, ar, ac, ao, ab, kc, st, ma, mk, se, ce, ad, (te_cp ce sh 72), kp, nu)) : ∀ g p : Nat, p + g = 72 → wX_refresh_4 pst r cc pn tp bo ins wr ot wt sr sc sp ar ac ao ab kc st ma mk se (g + 1) (nI (te_ct ce sh p)) (nI p) ce ad (te_cp ce sh p) kp nu := by
  intro g
  induction g with
  | zero =>
    intro p hp
    obtain rfl : p = 72 := by omega
    exact br_t (nI_le (a := 72) (b := 72) (by omega) (by omega)) h
  | succ g ih =>
    intro p hp
    have H := ih (p + 1) (by omega)
    refine br_f (nI_ge (b := 72) (by omega) (by omega)) ⟨vp_in_nI (by omega) (by omega), vp_in_nI (by omega) (by omega), ?_⟩
    rw [nI_clamp (by omega), te_cpJ]
    by_cases hc : ce p = sh p
    · have e : te_ct ce sh (p + 1) = te_ct ce sh p := by
        simp only [te_ct, if_pos hc, Nat.add_zero]
      rw [e, ← te_cpN ce sh p hc] at H
      exact br_t hc.symm (nm_r (nI_1 p) H)
    · have e : te_ct ce sh (p + 1) = te_ct ce sh p + 1 := by
        simp only [te_ct, if_neg hc]
      rw [e, ← te_cpS ce sh p] at H
      exact br_f (fun z => hc z.symm) ⟨vp_in_nI (by omega) (by omega), vp_in_nI (by omega) (by omega), nm_e (nm_r (nI_1 _) (nm_r (nI_1 p) H))⟩
theorem te_xrefresh {pst : Int32 → SX → Prop} (h : pst (nI (te_ct ce sh 72)) (r, cc, pn, tp, bo, ins, wr, ot, wt, sr, sc, sp, ar, ac, ao, ab, kc, st, ma, mk, se, ce, ad, (te_cp ce sh 72), kp, nu)) : wpX_refresh pst (r, cc, pn, tp, bo, ins, wr, ot, wt, sr, sc, sp, ar, ac, ao, ab, kc, st, ma, mk, se, ce, ad, sh, kp, nu) := by
  have H := te_xrf_L h 72 0 rfl
  rw [te_cp0] at H
  exact Exists.intro _ H
theorem te_xst_L {pst : Int32 → Prop} (h : pst (nI (te_ct ce sh 72))) : ∀ g p : Nat, p + g = 72 → wX_stale_4 pst r cc pn tp bo ins wr ot wt sr sc sp ar ac ao ab kc st ma mk se ce ad sh kp nu (g + 1) (nI (te_ct ce sh p)) (nI p) := by
  intro g
  induction g with
  | zero =>
    intro p hp
    obtain rfl : p = 72 := by omega
    exact br_t (nI_le (a := 72) (b := 72) (by omega) (by omega)) h
  | succ g ih =>
    intro p hp
    have H := ih (p + 1) (by omega)
    refine br_f (nI_ge (b := 72) (by omega) (by omega)) ⟨vp_in_nI (by omega) (by omega), vp_in_nI (by omega) (by omega), ?_⟩
    rw [nI_clamp (by omega)]
    by_cases hc : ce p = sh p
    · have e : te_ct ce sh (p + 1) = te_ct ce sh p := by
        simp only [te_ct, if_pos hc, Nat.add_zero]
      rw [e] at H
      exact br_t hc.symm (nm_r (nI_1 p) H)
    · have e : te_ct ce sh (p + 1) = te_ct ce sh p + 1 := by
        simp only [te_ct, if_neg hc]
      rw [e] at H
      exact br_f (fun z => hc z.symm) (nm_r (nI_1 _) (nm_r (nI_1 p) H))
theorem te_xstale {pst : Int32 → Prop} (h : pst (nI (te_ct ce sh 72))) : wpX_stale pst (r, cc, pn, tp, bo, ins, wr, ot, wt, sr, sc, sp, ar, ac, ao, ab, kc, st, ma, mk, se, ce, ad, sh, kp, nu) := Exists.intro _ (te_xst_L h 72 0 rfl)
end
