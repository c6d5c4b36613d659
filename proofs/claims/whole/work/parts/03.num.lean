/-! numbers -/
def te_min (a b : Nat) : Nat := if b ≤ a then b else a
def te_max (a b : Nat) : Nat := if a ≤ b then b else a
def te_dec (a n l : Nat) : Nat := if a ≤ l + n then l else a - n
def te_k8 (k : Nat) : Nat := te_min (k + 1) 8
theorem te_minLe (a b : Nat) : te_min a b ≤ b := by unfold te_min; split <;> omega
theorem te_minA {a b : Nat} (h : b ≤ a) : te_min a b = b := if_pos h
theorem te_minB {a b : Nat} (h : ¬ b ≤ a) : te_min a b = a := if_neg h
theorem te_minC {a b : Nat} (h : a ≤ b) : te_min a b = a := by unfold te_min; split <;> omega
theorem te_k8Le (k : Nat) : te_k8 k ≤ 8 := te_minLe _ _
theorem te_subLe {a n l : Nat} (ha : a < 2 ^ 30) (hn : n < 2 ^ 30) (hl : l < 2 ^ 30) : nI a - nI n ≤ nI l ↔ a ≤ l + n := by
  rw [Int32.le_iff_toInt_le, pk_sub_toInt ha hn, nI_toInt (by omega)]
  omega
theorem te_leSub {a n l : Nat} (ha : a < 2 ^ 30) (hn : n < 2 ^ 30) (hl : l < 2 ^ 30) : nI l ≤ nI a - nI n ↔ l + n ≤ a := by
  rw [Int32.le_iff_toInt_le, pk_sub_toInt ha hn, nI_toInt (by omega)]
  omega
theorem te_subLt {a n l : Nat} (ha : a < 2 ^ 30) (hn : n < 2 ^ 30) (hl : l < 2 ^ 30) : nI a - nI n < nI l ↔ a < l + n := by
  rw [Int32.lt_iff_toInt_lt, pk_sub_toInt ha hn, nI_toInt (by omega)]
  omega
theorem te_m12 (a : Nat) : nI a * 12 = nI (12 * a) := (pk_mul a 12).trans (congrArg nI (Nat.mul_comm a 12))
theorem te_12m (a : Nat) : 12 * nI a = nI (12 * a) := pk_mul 12 a
theorem te_ix (a b : Nat) : nI a * 12 + nI b = nI (12 * a + b) := by rw [te_m12, nI_add]
theorem te_iy (a b : Nat) : 12 * nI a + nI b = nI (12 * a + b) := by rw [te_12m, nI_add]
theorem te_b12 (b : Nat) : (nI b + 1) * 12 = nI (12 * (b + 1)) := by rw [nI_1, te_m12]
theorem te_iy11 (a : Nat) : 12 * nI a + 11 = nI (12 * a + 11) := te_iy a 11
theorem te_ix12 (a : Nat) : nI a * 12 + 12 = nI (12 * a + 12) := te_ix a 12
theorem te_sub1 (x : Int32) : x - 1 = x + (-1) := by first | exact Int32.sub_eq_add_neg x 1 | grind
theorem te_nsub {a b : Nat} (h : b ≤ a) : nI a - nI b = nI (a - b) := pk_sub h
theorem te_ns1 {a : Nat} (h : 1 ≤ a) : nI a - 1 = nI (a - 1) := pk_sub (b := 1) h
theorem te_m1lt {s : Nat} (hs : s < 2 ^ 30) : nI s + (-1) < nI s := by
  cases s with
  | zero => decide
  | succ q => rw [pk_m1 q]; exact nI_lt (by omega) (by omega)
theorem te_ne {a b : Nat} (h : a ≠ b) (ha : a < 2 ^ 31) (hb : b < 2 ^ 31) : ¬ nI a = nI b := fun z => h ((nI_eq ha hb).mp z)
theorem te_and127 {m : Nat} (h : m < 1024) : nI m &&& 127 = nI (m % 128) := pk_andN (by omega) 7 (by decide)
theorem te_rem128 {m : Nat} (h : m < 1024) : nI m - nI m / 128 * 128 = nI (m % 128) := pk_rem (d := 128) (by omega) (by omega) (by omega)
theorem te_keepRow {c : Nat → Int32} (h : te_rg c) (k : Nat) : c k - c k / 128 * 128 = c k &&& 127 := by
  obtain ⟨m, hm, e⟩ := h k
  rw [e, te_and127 hm, te_rem128 hm]
def te_b01 (z : Int32) : Prop := z = 0 ∨ z = 1
theorem te_nb {z : Int32} (h : te_b01 z) : narrow .boolean (.int z) = .int z := by
  rcases h with rfl | rfl
  · rfl
  · rfl
theorem te_fb {z : Int32} (h : te_b01 z) : fits .boolean (.int z) = true := by
  rcases h with rfl | rfl
  · first | rfl | decide
  · first | rfl | decide
theorem te_0 : te_b01 0 := Or.inl rfl
theorem te_1 : te_b01 1 := Or.inr rfl
theorem te_10 : ¬ (1 : Int32) = 0 := by decide
theorem te_b1 {z : Int32} (h : te_b01 z) (h0 : ¬ z = 0) : z = 1 := h.resolve_left h0

/-! the scrolls -/
def te_s1 (q : Bool) (T B K : Nat) (c kp : Nat → Int32) : Nat × (Nat → Int32) × (Nat → Int32) :=
  ((match q with | true => te_k8 K | false => K), te_mb c (12 * T) (12 * (B + 1)) 12, (match q with | true => te_keep kp c | false => kp))
def te_sn (q : Bool) (T B : Nat) : Nat → Nat → (Nat → Int32) → (Nat → Int32) → Nat × (Nat → Int32) × (Nat → Int32)
  | 0, K, c, kp => (K, c, kp)
  | n + 1, K, c, kp => te_sn q T B n (te_s1 q T B K c kp).1 (te_s1 q T B K c kp).2.1 (te_s1 q T B K c kp).2.2
theorem te_snOk {q : Bool} {T B : Nat} : ∀ (n K : Nat) (c kp : Nat → Int32), K ≤ 8 → te_rg c → (te_sn q T B n K c kp).1 ≤ 8 ∧ te_rg (te_sn q T B n K c kp).2.1 := by
  intro n
  induction n with
  | zero => intro K c kp hK hc; exact ⟨hK, hc⟩
  | succ n ih =>
    intro K c kp hK hc
    refine ih _ _ _ ?_ (te_rgMb hc _ _ _)
    cases q with
    | true => exact te_k8Le K
    | false => exact hK
def te_lfR (R B : Nat) : Nat := if R = B then R else if R < 5 then R + 1 else R
def te_lfW (q : Bool) (T B R K : Nat) (c kp : Nat → Int32) : Nat × (Nat → Int32) × (Nat → Int32) := if R = B then te_sn q T B 1 K c kp else (K, c, kp)
theorem te_lfR6 {R B : Nat} (h : R < 6) : te_lfR R B < 6 := by
  unfold te_lfR
  repeat' split
  all_goals omega
theorem te_lfOk {q : Bool} {T B R K : Nat} {c kp : Nat → Int32} (hK : K ≤ 8) (hc : te_rg c) : (te_lfW q T B R K c kp).1 ≤ 8 ∧ te_rg (te_lfW q T B R K c kp).2.1 := by
  unfold te_lfW
  split
  · exact te_snOk 1 K c kp hK hc
  · exact ⟨hK, hc⟩
def te_rlR (R T : Nat) : Nat := if R = T then R else R - 1
def te_rlC (R T B : Nat) (c : Nat → Int32) : Nat → Int32 := if R = T then te_mo c (12 * T) (12 * (B + 1)) 12 else c
/-- whether the lost row is kept -/
def te_q (ot : Int32) (T : Nat) : Bool := decide (ot = 0 ∧ T = 0)
theorem te_qT {ot : Int32} {T : Nat} (h : ot = 0) (hT : T = 0) : te_q ot T = true := decide_eq_true ⟨h, hT⟩
theorem te_qO {ot : Int32} {T : Nat} (h : ¬ ot = 0) : te_q ot T = false := decide_eq_false (fun z => h z.1)
theorem te_qN {ot : Int32} {T : Nat} (h : ¬ T = 0) : te_q ot T = false := decide_eq_false (fun z => h z.2)
def te_zr (nu : Nat → Int32) (p : Nat) : Nat → Int32 := fun k => if k < p then 0 else nu k
theorem te_zrS (nu : Nat → Int32) (p : Nat) : upd (te_zr nu p) p 0 = te_zr nu (p + 1) := by
  funext k
  simp only [te_zr, upd]
  repeat' split
  all_goals first | rfl | (exfalso; omega)
theorem te_zr0 (nu : Nat → Int32) : te_zr nu 0 = nu := by
  funext k
  simp only [te_zr]
  split
  · exfalso; omega
  · rfl
theorem te_clP (c : Nat → Int32) (p : Nat) : te_cl c 0 p p = c p := by
  simp only [te_cl]
  rw [if_neg (by omega)]

/-! the pen -/
def te_pv (P v : Nat) : Nat := if v = 0 then 0 else if v = 1 then P ||| 1 else if v = 4 then P ||| 2 else if v = 7 then P ||| 4 else if v = 22 then P &&& 6 else if v = 24 then P &&& 5 else if v = 27 then P &&& 3 else P
theorem te_pvT : ∀ P : Fin 8, nI P.val ||| 1 = nI (P.val ||| 1) ∧ nI P.val ||| 2 = nI (P.val ||| 2) ∧ nI P.val ||| 4 = nI (P.val ||| 4) ∧ nI P.val &&& (-2) = nI (P.val &&& 6) ∧ nI P.val &&& (-3) = nI (P.val &&& 5) ∧ nI P.val &&& (-5) = nI (P.val &&& 3) ∧ nI P.val &&& 6 = nI (P.val &&& 6) ∧ nI P.val &&& 5 = nI (P.val &&& 5) ∧ nI P.val &&& 3 = nI (P.val &&& 3) := by decide +kernel
theorem te_pvB : ∀ P : Fin 8, P.val ||| 1 < 8 ∧ P.val ||| 2 < 8 ∧ P.val ||| 4 < 8 ∧ P.val &&& 6 < 8 ∧ P.val &&& 5 < 8 ∧ P.val &&& 3 < 8 := by decide +kernel
theorem te_pv8 {P v : Nat} (h : P < 8) : te_pv P v < 8 := by
  have H := te_pvB ⟨P, h⟩
  unfold te_pv
  repeat' split
  all_goals first | omega | exact H.1 | exact H.2.1 | exact H.2.2.1 | exact H.2.2.2.1 | exact H.2.2.2.2.1 | exact H.2.2.2.2.2
/-- g numbers from the i-th on -/
def te_pp (v : Nat → Nat) : Nat → Nat → Nat → Nat
  | 0, _, P => P
  | g + 1, i, P => te_pp v g (i + 1) (te_pv P (v i))
theorem te_pp8 (v : Nat → Nat) : ∀ (g i P : Nat), P < 8 → te_pp v g i P < 8 := by
  intro g
  induction g with
  | zero => intro i P h; exact h
  | succ g ih => intro i P h; exact ih _ _ (te_pv8 h)
