section
/-! rows of kit/rows (PURE-ROWS), pasted -/
theorem pk_us {f : Nat → Int32} {k : Nat} {x : Int32} : upd f k x k = x := if_pos rfl
theorem pk_un {f : Nat → Int32} {k j : Nat} {x : Int32} (h : j ≠ k) : upd f k x j = f j := if_neg h
theorem pk_sub {a b : Nat} (h : b ≤ a) : nI a - nI b = nI (a - b) := by
  obtain ⟨c, rfl⟩ : ∃ c, a = c + b := ⟨a - b, by omega⟩
  rw [← nI_add, Int32.add_sub_cancel, Nat.add_sub_cancel]
theorem pk_m1 (n : Nat) : nI (n + 1) + (-1) = nI n := by
  rw [← nI_1, Int32.add_assoc, show (1 : Int32) + (-1) = 0 from rfl, Int32.add_zero]
theorem pk_mul (a b : Nat) : nI a * nI b = nI (a * b) := (Int32.ofNat_mul a b).symm
theorem pk_div {a d : Nat} (ha : a < 2 ^ 31) (h0 : 0 < d) (hd : d < 2 ^ 31) : nI a / nI d = nI (a / d) := by
  apply Int32.toInt_inj.mp
  rw [lg_idiv_nonneg (by rw [nI_toInt ha]; omega) (by rw [nI_toInt hd]; omega), nI_toInt ha, nI_toInt hd, nI_toInt (Nat.lt_of_le_of_lt (Nat.div_le_self a d) ha)]
  first | rfl | exact (Int.natCast_ediv _ _).symm
theorem pk_rem {a d : Nat} (ha : a < 2 ^ 31) (h0 : 0 < d) (hd : d < 2 ^ 31) : nI a - nI a / nI d * nI d = nI (a % d) := by
  rw [pk_div ha h0 hd, pk_mul, pk_sub (Nat.div_mul_le_self a d)]
  exact congrArg nI (by have := Nat.div_add_mod' a d; omega)
theorem pk_sub_toInt {a b : Nat} (ha : a < 2 ^ 30) (hb : b < 2 ^ 30) : (nI a - nI b).toInt = (a : Int) - b := by
  rw [Int32.toInt_sub, nI_toInt (by omega), nI_toInt (by omega)]
  exact Int.bmod_eq_of_le (by omega) (by omega)
theorem pk_sneg {a b : Nat} (hb : b < 2 ^ 30) (h : a < b) : nI a - nI b < 0 := by
  rw [Int32.lt_iff_toInt_lt, pk_sub_toInt (by omega) hb, show (0 : Int32).toInt = 0 from by decide]
  omega
theorem pk_le {x y : Int32} {A B : Prop} (a b : Nat) (f : a ≤ b → A) (g : b < a → B) (hx : x = nI a := by rfl) (hy : y = nI b := by rfl) (ha : a < 2 ^ 31 := by omega) (hb : b < 2 ^ 31 := by omega) : (x ≤ y → A) ∧ (¬ x ≤ y → B) := by
  subst hx hy
  rw [nI_leI ha hb]
  exact ⟨f, fun z => g (by omega)⟩
theorem pk_lt {x y : Int32} {A B : Prop} (a b : Nat) (f : a < b → A) (g : b ≤ a → B) (hx : x = nI a := by rfl) (hy : y = nI b := by rfl) (ha : a < 2 ^ 31 := by omega) (hb : b < 2 ^ 31 := by omega) : (x < y → A) ∧ (¬ x < y → B) := by
  subst hx hy
  rw [nI_ltI ha hb]
  exact ⟨f, fun z => g (by omega)⟩
theorem pk_eq {x y : Int32} {A B : Prop} (a b : Nat) (f : a = b → A) (g : a ≠ b → B) (hx : x = nI a := by rfl) (hy : y = nI b := by rfl) (ha : a < 2 ^ 31 := by omega) (hb : b < 2 ^ 31 := by omega) : (x = y → A) ∧ (¬ x = y → B) := by
  subst hx hy
  rw [nI_eq ha hb]
  exact ⟨f, g⟩
theorem pk_in {x : Int32} (n N : Nat) (h : n < N) (hx : x = nI n := by rfl) (hN : N < 2 ^ 31 := by omega) : vp_in x N := by
  subst hx
  exact vp_in_nI h hN
theorem pk_cl {x : Int32} (n : Nat) (hx : x = nI n := by rfl) (h : n < 2 ^ 31 := by omega) : x.toNatClampNeg = n := by
  subst hx
  exact nI_clamp h
theorem pk_tn {n : Nat} (h : n < 2 ^ 32) : (nI n).toBitVec.toNat = n := Nat.mod_eq_of_lt h
theorem pk_and (x : Int32) {m : Int32} (k : Nat) (hm : m.toBitVec.toNat = 2 ^ k - 1) : x &&& m = nI (x.toBitVec.toNat % 2 ^ k) := by
  apply Int32.toBitVec_inj.mp
  apply BitVec.eq_of_toNat_eq
  rw [Int32.toBitVec_and, BitVec.toNat_and, hm, Nat.and_two_pow_sub_one_eq_mod]
  show _ = (BitVec.ofNat 32 _).toNat
  rw [BitVec.toNat_ofNat]
  exact (Nat.mod_eq_of_lt (Nat.lt_of_le_of_lt (Nat.mod_le _ _) x.toBitVec.isLt)).symm
theorem pk_andN {n : Nat} (h : n < 2 ^ 32) {m : Int32} (k : Nat) (hm : m.toBitVec.toNat = 2 ^ k - 1) : nI n &&& m = nI (n % 2 ^ k) := by
  rw [pk_and _ k hm, pk_tn h]
theorem pk_shr (a s : Int32) (k : Nat) (hs : (s.toBitVec.smod 32).toNat = k) : (a >>> s).toInt = a.toInt >>> k := by
  show (a.toBitVec.sshiftRight (s.toBitVec.smod 32).toNat).toInt = _
  rw [hs, BitVec.toInt_sshiftRight]
  rfl
theorem pk_shrN {n : Nat} (h : n < 2 ^ 31) (s : Int32) (k : Nat) (hs : (s.toBitVec.smod 32).toNat = k) : nI n >>> s = nI (n / 2 ^ k) := by
  apply Int32.toInt_inj.mp
  have h2 : n / 2 ^ k ≤ n := Nat.div_le_self _ _
  rw [pk_shr _ _ k hs, nI_toInt h, nI_toInt (by omega), Int.shiftRight_eq_div_pow]
  rfl
theorem sb_m1 {p : Nat} (h : 0 < p) : nI p + (-1) = nI (p - 1) := by
  obtain ⟨q, rfl⟩ : ∃ q, p = q + 1 := ⟨p - 1, by omega⟩
  exact pk_m1 q
end
section
/-! pure pictures of the moves on the cells -/
def te_mb (c : Nat → Int32) (s e d : Nat) : Nat → Int32 := fun k => if s ≤ k ∧ k < e then (if k + d < e then c (k + d) else 32) else c k
def te_mo (c : Nat → Int32) (s e d : Nat) : Nat → Int32 := fun k => if s ≤ k ∧ k < e then (if s + d ≤ k then c (k - d) else 32) else c k
def te_cl (c : Nat → Int32) (s e : Nat) : Nat → Int32 := fun k => if s ≤ k ∧ k < e then 32 else c k
theorem te_mbmb (c : Nat → Int32) (s e a b : Nat) : te_mb (te_mb c s e a) s e b = te_mb c s e (a + b) := by
  funext k
  simp only [te_mb]
  repeat' split
  all_goals first | rfl | (exfalso; omega) | exact congrArg c (by omega)
theorem te_momo (c : Nat → Int32) (s e a b : Nat) : te_mo (te_mo c s e a) s e b = te_mo c s e (a + b) := by
  funext k
  simp only [te_mo]
  repeat' split
  all_goals first | rfl | (exfalso; omega) | exact congrArg c (by omega)
theorem te_mb0 (c : Nat → Int32) (s e : Nat) : te_mb c s e 0 = c := by
  funext k
  simp only [te_mb, Nat.add_zero]
  repeat' split
  all_goals first | rfl | (exfalso; omega)
theorem te_mo0 (c : Nat → Int32) (s e : Nat) : te_mo c s e 0 = c := by
  funext k
  simp only [te_mo, Nat.add_zero, Nat.sub_zero]
  repeat' split
  all_goals first | rfl | (exfalso; omega)
/-- beyond the length of the piece every move is the same -/
theorem te_mbX (c : Nat → Int32) {s e a b : Nat} (ha : e ≤ s + a) (hb : e ≤ s + b) : te_mb c s e a = te_mb c s e b := by
  funext k
  simp only [te_mb]
  repeat' split
  all_goals first | rfl | (exfalso; omega)
theorem te_moX (c : Nat → Int32) {s e a b : Nat} (ha : e ≤ s + a) (hb : e ≤ s + b) : te_mo c s e a = te_mo c s e b := by
  funext k
  simp only [te_mo]
  repeat' split
  all_goals first | rfl | (exfalso; omega)
theorem te_mbM (c : Nat → Int32) {s e n : Nat} (h : e ≤ s + 12) : te_mb c s e (min n 12) = te_mb c s e n := by
  by_cases h1 : n ≤ 12
  · rw [Nat.min_eq_left h1]
  · exact te_mbX c (by omega) (by omega)
theorem te_moM (c : Nat → Int32) {s e n : Nat} (h : e ≤ s + 12) : te_mo c s e (min n 12) = te_mo c s e n := by
  by_cases h1 : n ≤ 12
  · rw [Nat.min_eq_left h1]
  · exact te_moX c (by omega) (by omega)

/-! the cells' range -/
def te_rg (c : Nat → Int32) : Prop := ∀ k, ∃ m : Nat, m < 1024 ∧ c k = nI m
theorem te_rg32 : ∃ m : Nat, m < 1024 ∧ (32 : Int32) = nI m := ⟨32, by omega, rfl⟩
theorem te_rgMb {c : Nat → Int32} (h : te_rg c) (s e d : Nat) : te_rg (te_mb c s e d) := by
  intro k
  simp only [te_mb]
  repeat' split
  all_goals first | exact h _ | exact te_rg32
theorem te_rgMo {c : Nat → Int32} (h : te_rg c) (s e d : Nat) : te_rg (te_mo c s e d) := by
  intro k
  simp only [te_mo]
  repeat' split
  all_goals first | exact h _ | exact te_rg32
theorem te_rgCl {c : Nat → Int32} (h : te_rg c) (s e : Nat) : te_rg (te_cl c s e) := by
  intro k
  simp only [te_cl]
  repeat' split
  all_goals first | exact h _ | exact te_rg32
theorem te_rgU {c : Nat → Int32} (h : te_rg c) {k m : Nat} (hm : m < 1024) : te_rg (upd c k (nI m)) := by
  intro j
  simp only [upd]
  split
  · exact ⟨m, hm, rfl⟩
  · exact h j
theorem te_rg0 : te_rg (fun _ => 0) := fun _ => ⟨0, by omega, rfl⟩

/-! the reference's row by row -/
/-- one row copied -/
def te_cr (c : Nat → Int32) (f t j : Nat) : Nat → Int32 := fun k => if 12 * t ≤ k ∧ k < 12 * t + j then c (k - 12 * t + 12 * f) else c k
theorem te_crS (c : Nat → Int32) {f t j : Nat} (hj : j < 12) (hft : f < t ∨ t < f) : upd (te_cr c f t j) (12 * t + j) (te_cr c f t j (12 * f + j)) = te_cr c f t (j + 1) := by
  funext k
  simp only [te_cr, upd]
  repeat' split
  all_goals first | rfl | (exfalso; omega) | exact congrArg c (by omega)
theorem te_cr0 (c : Nat → Int32) (f t : Nat) : te_cr c f t 0 = c := by
  funext k
  simp only [te_cr]
  split
  · exfalso; omega
  · rfl
def te_up (c : Nat → Int32) (f r : Nat) : Nat → Int32 := fun k => if 12 * f ≤ k ∧ k < 12 * r then c (k + 12) else c k
theorem te_upS (c : Nat → Int32) {f r : Nat} (h : f ≤ r) : te_cr (te_up c f r) (r + 1) r 12 = te_up c f (r + 1) := by
  funext k
  simp only [te_cr, te_up]
  repeat' split
  all_goals first | rfl | (exfalso; omega) | exact congrArg c (by omega)
theorem te_up0 (c : Nat → Int32) (f : Nat) : te_up c f f = c := by
  funext k
  simp only [te_up]
  split
  · exfalso; omega
  · rfl
theorem te_upE (c : Nat → Int32) {f t : Nat} (h : f ≤ t) : te_cl (te_up c f t) (12 * t) (12 * t + 12) = te_mb c (12 * f) (12 * (t + 1)) 12 := by
  funext k
  simp only [te_cl, te_up, te_mb]
  repeat' split
  all_goals first | rfl | (exfalso; omega) | exact congrArg c (by omega)
def te_dn (c : Nat → Int32) (t r : Nat) : Nat → Int32 := fun k => if 12 * (r + 1) ≤ k ∧ k < 12 * (t + 1) then c (k - 12) else c k
theorem te_dnS (c : Nat → Int32) {t r : Nat} (h : r + 1 ≤ t) : te_cr (te_dn c t (r + 1)) r (r + 1) 12 = te_dn c t r := by
  funext k
  simp only [te_cr, te_dn]
  repeat' split
  all_goals first | rfl | (exfalso; omega) | exact congrArg c (by omega)
theorem te_dn0 (c : Nat → Int32) (t : Nat) : te_dn c t t = c := by
  funext k
  simp only [te_dn]
  split
  · exfalso; omega
  · rfl
theorem te_dnE (c : Nat → Int32) {f t : Nat} (h : f ≤ t) : te_cl (te_dn c t f) (12 * f) (12 * f + 12) = te_mo c (12 * f) (12 * (t + 1)) 12 := by
  funext k
  simp only [te_cl, te_dn, te_mo]
  repeat' split
  all_goals first | rfl | (exfalso; omega) | exact congrArg c (by omega)

/-! the reference's cell by cell -/
/-- cells behind p, up to e, one to the right -/
def te_ri (c : Nat → Int32) (p e : Nat) : Nat → Int32 := fun k => if p < k ∧ k < e then c (k - 1) else c k
theorem te_riS (c : Nat → Int32) {p e : Nat} (h : p + 1 < e) : upd (te_ri c (p + 1) e) (p + 1) (te_ri c (p + 1) e p) = te_ri c p e := by
  funext k
  simp only [te_ri, upd]
  repeat' split
  all_goals first | rfl | (exfalso; omega) | exact congrArg c (by omega)
theorem te_ri0 (c : Nat → Int32) {p e : Nat} (h : e ≤ p + 1) : te_ri c p e = c := by
  funext k
  simp only [te_ri]
  split
  · exfalso; omega
  · rfl
theorem te_riE (c : Nat → Int32) {p e : Nat} (h : p < e) : upd (te_ri c p e) p 32 = te_mo c p e 1 := by
  funext k
  simp only [te_ri, upd, te_mo]
  repeat' split
  all_goals first | rfl | (exfalso; omega) | exact congrArg c (by omega)
/-- cells from s to p, one to the left -/
def te_le (c : Nat → Int32) (s p : Nat) : Nat → Int32 := fun k => if s ≤ k ∧ k < p then c (k + 1) else c k
theorem te_leS (c : Nat → Int32) {s p : Nat} (h : s ≤ p) : upd (te_le c s p) p (te_le c s p (p + 1)) = te_le c s (p + 1) := by
  funext k
  simp only [te_le, upd]
  repeat' split
  all_goals first | rfl | (exfalso; omega) | exact congrArg c (by omega)
theorem te_le0 (c : Nat → Int32) (s : Nat) : te_le c s s = c := by
  funext k
  simp only [te_le]
  split
  · exfalso; omega
  · rfl
theorem te_leE (c : Nat → Int32) {s p : Nat} (h : s ≤ p) : upd (te_le c s p) p 32 = te_mb c s (p + 1) 1 := by
  funext k
  simp only [te_le, upd, te_mb]
  repeat' split
  all_goals first | rfl | (exfalso; omega) | exact congrArg c (by omega)

/-! the component's own loops -/
def te_mbI (c : Nat → Int32) (s e d p : Nat) : Nat → Int32 := fun k => if s ≤ k ∧ k < p then (if k + d < e then c (k + d) else 32) else c k
theorem te_mbIa (c : Nat → Int32) {s e d p : Nat} (h : s ≤ p) (hd : 0 < d) (h2 : p + d < e) : upd (te_mbI c s e d p) p (te_mbI c s e d p (p + d)) = te_mbI c s e d (p + 1) := by
  funext k
  simp only [te_mbI, upd]
  repeat' split
  all_goals first | rfl | (exfalso; omega) | exact congrArg c (by omega)
theorem te_mbIb (c : Nat → Int32) {s e d p : Nat} (h : s ≤ p) (h2 : ¬ p + d < e) : upd (te_mbI c s e d p) p 32 = te_mbI c s e d (p + 1) := by
  funext k
  simp only [te_mbI, upd]
  repeat' split
  all_goals first | rfl | (exfalso; omega) | exact congrArg c (by omega)
theorem te_mbI0 (c : Nat → Int32) (s e d : Nat) : te_mbI c s e d s = c := by
  funext k
  simp only [te_mbI]
  split
  · exfalso; omega
  · rfl
/-- the loop stands at p - 1 -/
def te_moI (c : Nat → Int32) (s e d p : Nat) : Nat → Int32 := fun k => if p ≤ k ∧ k < e then (if s + d ≤ k then c (k - d) else 32) else c k
theorem te_moIa (c : Nat → Int32) {s e d p : Nat} (hd : 0 < d) (hp : p + 1 ≤ e) (h2 : s + d ≤ p) : upd (te_moI c s e d (p + 1)) p (te_moI c s e d (p + 1) (p - d)) = te_moI c s e d p := by
  funext k
  simp only [te_moI, upd]
  repeat' split
  all_goals first | rfl | (exfalso; omega) | exact congrArg c (by omega)
theorem te_moIb (c : Nat → Int32) {s e d p : Nat} (hp : p + 1 ≤ e) (h2 : ¬ s + d ≤ p) : upd (te_moI c s e d (p + 1)) p 32 = te_moI c s e d p := by
  funext k
  simp only [te_moI, upd]
  repeat' split
  all_goals first | rfl | (exfalso; omega) | exact congrArg c (by omega)
theorem te_moI0 (c : Nat → Int32) (s e d : Nat) : te_moI c s e d e = c := by
  funext k
  simp only [te_moI]
  split
  · exfalso; omega
  · rfl
theorem te_clS (c : Nat → Int32) {s p : Nat} (h : s ≤ p) : upd (te_cl c s p) p 32 = te_cl c s (p + 1) := by
  funext k
  simp only [te_cl, upd]
  repeat' split
  all_goals first | rfl | (exfalso; omega)
theorem te_cl0 (c : Nat → Int32) {s p : Nat} (h : p ≤ s) : te_cl c s p = c := by
  funext k
  simp only [te_cl]
  split
  · exfalso; omega
  · rfl

/-! what is kept off the screen -/
/-- rows of the kept ones moved on by one, down to p -/
def te_kd (kp : Nat → Int32) (p : Nat) : Nat → Int32 := fun k => if p ≤ k ∧ k < 96 then kp (k - 12) else kp k
theorem te_kdS (kp : Nat → Int32) {p : Nat} (h : 12 ≤ p) (h2 : p < 96) : upd (te_kd kp (p + 1)) p (te_kd kp (p + 1) (p - 12)) = te_kd kp p := by
  funext k
  simp only [te_kd, upd]
  repeat' split
  all_goals first | rfl | (exfalso; omega) | exact congrArg kp (by omega)
theorem te_kd0 (kp : Nat → Int32) : te_kd kp 96 = kp := by
  funext k
  simp only [te_kd]
  split
  · exfalso; omega
  · rfl
/-- the first j signs of row 0 laid in front -/
def te_kf (kp c : Nat → Int32) (j : Nat) : Nat → Int32 := fun k => if k < j then c k &&& 127 else kp k
theorem te_kfS (kp c : Nat → Int32) (j : Nat) : upd (te_kf kp c j) j (c j &&& 127) = te_kf kp c (j + 1) := by
  funext k
  simp only [te_kf, upd]
  by_cases h : k = j
  · subst h
    rw [if_pos rfl, if_pos (by omega)]
  · rw [if_neg h]
    by_cases h2 : k < j
    · rw [if_pos h2, if_pos (by omega)]
    · rw [if_neg h2, if_neg (by omega)]
theorem te_kf0 (kp c : Nat → Int32) : te_kf kp c 0 = kp := by
  funext k
  simp only [te_kf]
  split
  · exfalso; omega
  · rfl
def te_keep (kp c : Nat → Int32) : Nat → Int32 := te_kf (te_kd kp 12) c 12

/-! the count of the cells that are shown otherwise -/
def te_ct (c s : Nat → Int32) : Nat → Nat
  | 0 => 0
  | n + 1 => te_ct c s n + (if c n = s n then 0 else 1)
theorem te_ctLe (c s : Nat → Int32) : ∀ n, te_ct c s n ≤ n := by
  intro n
  induction n with
  | zero => exact Nat.le_refl 0
  | succ n ih =>
    simp only [te_ct]
    split <;> omega
/-- the first j cells of c over s -/
def te_cp (c s : Nat → Int32) (j : Nat) : Nat → Int32 := fun k => if k < j then c k else s k
theorem te_cpS (c s : Nat → Int32) (j : Nat) : upd (te_cp c s j) j (c j) = te_cp c s (j + 1) := by
  funext k
  simp only [te_cp, upd]
  by_cases h : k = j
  · subst h
    rw [if_pos rfl, if_pos (by omega)]
  · rw [if_neg h]
    by_cases h2 : k < j
    · rw [if_pos h2, if_pos (by omega)]
    · rw [if_neg h2, if_neg (by omega)]
theorem te_cpN (c s : Nat → Int32) (j : Nat) (h : c j = s j) : te_cp c s j = te_cp c s (j + 1) := by
  funext k
  simp only [te_cp]
  by_cases h2 : k < j
  · rw [if_pos h2, if_pos (by omega)]
  · rw [if_neg h2]
    by_cases h3 : k = j
    · subst h3
      rw [if_pos (by omega), h]
    · rw [if_neg (by omega)]
theorem te_cp0 (c s : Nat → Int32) : te_cp c s 0 = s := by
  funext k
  simp only [te_cp]
  split
  · exfalso; omega
  · rfl
theorem te_cpJ (c s : Nat → Int32) (j : Nat) : te_cp c s j j = s j := by
  simp only [te_cp]
  rw [if_neg (by omega)]
end
section
/-! numbers -/
def te_min (a b : Nat) : Nat := if b ≤ a then b else a
def te_max (a b : Nat) : Nat := if a ≤ b then b else a
def te_dec (a n l : Nat) : Nat := if a ≤ l + n then l else a - n
def te_k8 (k : Nat) : Nat := te_min (k + 1) 8
theorem te_minLe (a b : Nat) : te_min a b ≤ b := by unfold te_min; split <;> omega
theorem te_minA {a b : Nat} (h : b ≤ a) : te_min a b = b := if_pos h
theorem te_minB {a b : Nat} (h : ¬ b ≤ a) : te_min a b = a := if_neg h
theorem te_minC {a b : Nat} (h : a ≤ b) : te_min a b = a := by unfold te_min; split <;> omega
theorem te_k8Le (k : Nat) : te_k8 k ≤ 8 := te_minLe _ _
theorem te_subLe {a n l : Nat} (ha : a < 2 ^ 30) (hn : n < 2 ^ 30) (hl : l < 2 ^ 30) : nI a - nI n ≤ nI l ↔ a ≤ l + n := by
  rw [Int32.le_iff_toInt_le, pk_sub_toInt ha hn, nI_toInt (by omega)]
  omega
theorem te_leSub {a n l : Nat} (ha : a < 2 ^ 30) (hn : n < 2 ^ 30) (hl : l < 2 ^ 30) : nI l ≤ nI a - nI n ↔ l + n ≤ a := by
  rw [Int32.le_iff_toInt_le, pk_sub_toInt ha hn, nI_toInt (by omega)]
  omega
theorem te_subLt {a n l : Nat} (ha : a < 2 ^ 30) (hn : n < 2 ^ 30) (hl : l < 2 ^ 30) : nI a - nI n < nI l ↔ a < l + n := by
  rw [Int32.lt_iff_toInt_lt, pk_sub_toInt ha hn, nI_toInt (by omega)]
  omega
theorem te_m12 (a : Nat) : nI a * 12 = nI (12 * a) := (pk_mul a 12).trans (congrArg nI (Nat.mul_comm a 12))
theorem te_12m (a : Nat) : 12 * nI a = nI (12 * a) := pk_mul 12 a
theorem te_ix (a b : Nat) : nI a * 12 + nI b = nI (12 * a + b) := by rw [te_m12, nI_add]
theorem te_iy (a b : Nat) : 12 * nI a + nI b = nI (12 * a + b) := by rw [te_12m, nI_add]
theorem te_b12 (b : Nat) : (nI b + 1) * 12 = nI (12 * (b + 1)) := by rw [nI_1, te_m12]
theorem te_iy11 (a : Nat) : 12 * nI a + 11 = nI (12 * a + 11) := te_iy a 11
theorem te_ix12 (a : Nat) : nI a * 12 + 12 = nI (12 * a + 12) := te_ix a 12
theorem te_sub1 (x : Int32) : x - 1 = x + (-1) := by first | exact Int32.sub_eq_add_neg x 1 | grind
theorem te_nsub {a b : Nat} (h : b ≤ a) : nI a - nI b = nI (a - b) := pk_sub h
theorem te_ns1 {a : Nat} (h : 1 ≤ a) : nI a - 1 = nI (a - 1) := pk_sub (b := 1) h
theorem te_m1lt {s : Nat} (hs : s < 2 ^ 30) : nI s + (-1) < nI s := by
  cases s with
  | zero => decide
  | succ q => rw [pk_m1 q]; exact nI_lt (by omega) (by omega)
theorem te_ne {a b : Nat} (h : a ≠ b) (ha : a < 2 ^ 31) (hb : b < 2 ^ 31) : ¬ nI a = nI b := fun z => h ((nI_eq ha hb).mp z)
theorem te_and127 {m : Nat} (h : m < 1024) : nI m &&& 127 = nI (m % 128) := pk_andN (by omega) 7 (by decide)
theorem te_rem128 {m : Nat} (h : m < 1024) : nI m - nI m / 128 * 128 = nI (m % 128) := pk_rem (d := 128) (by omega) (by omega) (by omega)
theorem te_keepRow {c : Nat → Int32} (h : te_rg c) (k : Nat) : c k - c k / 128 * 128 = c k &&& 127 := by
  obtain ⟨m, hm, e⟩ := h k
  rw [e, te_and127 hm, te_rem128 hm]
def te_b01 (z : Int32) : Prop := z = 0 ∨ z = 1
theorem te_nb {z : Int32} (h : te_b01 z) : narrow .boolean (.int z) = .int z := by
  rcases h with rfl | rfl
  · rfl
  · rfl
theorem te_fb {z : Int32} (h : te_b01 z) : fits .boolean (.int z) = true := by
  rcases h with rfl | rfl
  · first | rfl | decide
  · first | rfl | decide
theorem te_0 : te_b01 0 := Or.inl rfl
theorem te_1 : te_b01 1 := Or.inr rfl
theorem te_10 : ¬ (1 : Int32) = 0 := by decide
theorem te_b1 {z : Int32} (h : te_b01 z) (h0 : ¬ z = 0) : z = 1 := h.resolve_left h0

/-! the scrolls -/
def te_s1 (q : Bool) (T B K : Nat) (c kp : Nat → Int32) : Nat × (Nat → Int32) × (Nat → Int32) :=
  ((match q with | true => te_k8 K | false => K), te_mb c (12 * T) (12 * (B + 1)) 12, (match q with | true => te_keep kp c | false => kp))
def te_sn (q : Bool) (T B : Nat) : Nat → Nat → (Nat → Int32) → (Nat → Int32) → Nat × (Nat → Int32) × (Nat → Int32)
  | 0, K, c, kp => (K, c, kp)
  | n + 1, K, c, kp => te_sn q T B n (te_s1 q T B K c kp).1 (te_s1 q T B K c kp).2.1 (te_s1 q T B K c kp).2.2
theorem te_snOk {q : Bool} {T B : Nat} : ∀ (n K : Nat) (c kp : Nat → Int32), K ≤ 8 → te_rg c → (te_sn q T B n K c kp).1 ≤ 8 ∧ te_rg (te_sn q T B n K c kp).2.1 := by
  intro n
  induction n with
  | zero => intro K c kp hK hc; exact ⟨hK, hc⟩
  | succ n ih =>
    intro K c kp hK hc
    refine ih _ _ _ ?_ (te_rgMb hc _ _ _)
    cases q with
    | true => exact te_k8Le K
    | false => exact hK
def te_lfR (R B : Nat) : Nat := if R = B then R else if R < 5 then R + 1 else R
def te_lfW (q : Bool) (T B R K : Nat) (c kp : Nat → Int32) : Nat × (Nat → Int32) × (Nat → Int32) := if R = B then te_sn q T B 1 K c kp else (K, c, kp)
theorem te_lfR6 {R B : Nat} (h : R < 6) : te_lfR R B < 6 := by
  unfold te_lfR
  repeat' split
  all_goals omega
theorem te_lfOk {q : Bool} {T B R K : Nat} {c kp : Nat → Int32} (hK : K ≤ 8) (hc : te_rg c) : (te_lfW q T B R K c kp).1 ≤ 8 ∧ te_rg (te_lfW q T B R K c kp).2.1 := by
  unfold te_lfW
  split
  · exact te_snOk 1 K c kp hK hc
  · exact ⟨hK, hc⟩
def te_rlR (R T : Nat) : Nat := if R = T then R else R - 1
def te_rlC (R T B : Nat) (c : Nat → Int32) : Nat → Int32 := if R = T then te_mo c (12 * T) (12 * (B + 1)) 12 else c
/-- whether the lost row is kept -/
def te_q (ot : Int32) (T : Nat) : Bool := decide (ot = 0 ∧ T = 0)
theorem te_qT {ot : Int32} {T : Nat} (h : ot = 0) (hT : T = 0) : te_q ot T = true := decide_eq_true ⟨h, hT⟩
theorem te_qO {ot : Int32} {T : Nat} (h : ¬ ot = 0) : te_q ot T = false := decide_eq_false (fun z => h z.1)
theorem te_qN {ot : Int32} {T : Nat} (h : ¬ T = 0) : te_q ot T = false := decide_eq_false (fun z => h z.2)
def te_zr (nu : Nat → Int32) (p : Nat) : Nat → Int32 := fun k => if k < p then 0 else nu k
theorem te_zrS (nu : Nat → Int32) (p : Nat) : upd (te_zr nu p) p 0 = te_zr nu (p + 1) := by
  funext k
  simp only [te_zr, upd]
  repeat' split
  all_goals first | rfl | (exfalso; omega)
theorem te_zr0 (nu : Nat → Int32) : te_zr nu 0 = nu := by
  funext k
  simp only [te_zr]
  split
  · exfalso; omega
  · rfl
theorem te_clP (c : Nat → Int32) (p : Nat) : te_cl c 0 p p = c p := by
  simp only [te_cl]
  rw [if_neg (by omega)]

/-! the pen -/
def te_pv (P v : Nat) : Nat := if v = 0 then 0 else if v = 1 then P ||| 1 else if v = 4 then P ||| 2 else if v = 7 then P ||| 4 else if v = 22 then P &&& 6 else if v = 24 then P &&& 5 else if v = 27 then P &&& 3 else P
theorem te_pvT : ∀ P : Fin 8, nI P.val ||| 1 = nI (P.val ||| 1) ∧ nI P.val ||| 2 = nI (P.val ||| 2) ∧ nI P.val ||| 4 = nI (P.val ||| 4) ∧ nI P.val &&& (-2) = nI (P.val &&& 6) ∧ nI P.val &&& (-3) = nI (P.val &&& 5) ∧ nI P.val &&& (-5) = nI (P.val &&& 3) ∧ nI P.val &&& 6 = nI (P.val &&& 6) ∧ nI P.val &&& 5 = nI (P.val &&& 5) ∧ nI P.val &&& 3 = nI (P.val &&& 3) := by decide +kernel
theorem te_pvB : ∀ P : Fin 8, P.val ||| 1 < 8 ∧ P.val ||| 2 < 8 ∧ P.val ||| 4 < 8 ∧ P.val &&& 6 < 8 ∧ P.val &&& 5 < 8 ∧ P.val &&& 3 < 8 := by decide +kernel
theorem te_pv8 {P v : Nat} (h : P < 8) : te_pv P v < 8 := by
  have H := te_pvB ⟨P, h⟩
  unfold te_pv
  repeat' split
  all_goals first | omega | exact H.1 | exact H.2.1 | exact H.2.2.1 | exact H.2.2.2.1 | exact H.2.2.2.2.1 | exact H.2.2.2.2.2
/-- g numbers from the i-th on -/
def te_pp (v : Nat → Nat) : Nat → Nat → Nat → Nat
  | 0, _, P => P
  | g + 1, i, P => te_pp v g (i + 1) (te_pv P (v i))
theorem te_pp8 (v : Nat → Nat) : ∀ (g i P : Nat), P < 8 → te_pp v g i P < 8 := by
  intro g
  induction g with
  | zero => intro i P h; exact h
  | succ g ih => intro i P h; exact ih _ _ (te_pv8 h)
end
section
/-! the component's methods, each with a general post -/
section
variable {post : SX → Prop} {r cc pn tp bo ins wr ot wt sr sc sp ar ac ao ab kc st ma mk se : Int32} {ce ad sh kp nu : Nat → Int32}
theorem te_xless {pst : Int32 → Prop} {x y : Int32} (a b : Nat) (hx : x = nI a) (hy : y = nI b) (ha : a < 2 ^ 30) (hb : b < 2 ^ 30) (h : pst (nI (te_min a b))) : wpX_lesser pst x y := by
  subst hx hy
  by_cases hc : b ≤ a
  · rw [te_minA hc] at h
    exact br_t (nI_le hc (by omega)) h
  · rw [te_minB hc] at h
    exact br_f (nI_ge (by omega) (by omega)) h
theorem te_xgreat {pst : Int32 → Prop} {x y : Int32} (a b : Nat) (hx : x = nI a) (hy : y = nI b) (ha : a < 2 ^ 30) (hb : b < 2 ^ 30) (h : pst (nI (te_max a b))) : wpX_greater pst x y := by
  subst hx hy
  unfold te_max at h
  by_cases hc : a ≤ b
  · rw [if_pos hc] at h
    exact br_t (nI_le hc (by omega)) h
  · rw [if_neg hc] at h
    exact br_f (nI_ge (by omega) (by omega)) h
theorem te_xgreatS {pst : Int32 → Prop} {x y : Int32} (a n b : Nat) (hx : x = nI a - nI n) (hy : y = nI b) (ha : a < 2 ^ 30) (hn : n < 2 ^ 30) (hb : b < 2 ^ 30) (h : pst (nI (te_dec a n b))) : wpX_greater pst x y := by
  subst hx hy
  unfold te_dec at h
  by_cases hc : a ≤ b + n
  · rw [if_pos hc] at h
    exact br_t ((te_subLe ha hn hb).mpr hc) h
  · rw [if_neg hc] at h
    refine br_f (fun z => hc ((te_subLe ha hn hb).mp z)) ?_
    rw [te_nsub (by omega)]
    exact h
theorem te_xcl_L {s e : Nat} (he : e ≤ 72) (h : post (r, cc, pn, tp, bo, ins, wr, ot, wt, sr, sc, sp, ar, ac, ao, ab, kc, st, ma, mk, se, (te_cl ce s e), ad, sh, kp, nu)) : ∀ g p : Nat, p + g = e → s ≤ p → wX_clear_2 post (nI e) r cc pn tp bo ins wr ot wt sr sc sp ar ac ao ab kc st ma mk se (g + 1) (nI p) (te_cl ce s p) ad sh kp nu := by
  intro g
  induction g with
  | zero =>
    intro p hp hs
    obtain rfl : p = e := by omega
    exact br_t (nI_le (Nat.le_refl _) (by omega)) h
  | succ g ih =>
    intro p hp hs
    refine br_f (nI_ge (by omega) (by omega)) ⟨vp_in_nI (by omega) (by omega), nm_r ?_ (nm_r (nI_1 p) (ih (p + 1) (by omega) (by omega)))⟩
    rw [nI_clamp (by omega)]
    exact te_clS ce hs
theorem te_xclear {x y : Int32} (s e : Nat) (hx : x = nI s) (hy : y = nI e) (hse : s ≤ e) (he : e ≤ 72) (h : post (r, cc, pn, tp, bo, ins, wr, ot, wt, sr, sc, sp, ar, ac, ao, ab, kc, st, ma, mk, se, (te_cl ce s e), ad, sh, kp, nu)) : wpX_clear post (r, cc, pn, tp, bo, ins, wr, ot, wt, sr, sc, sp, ar, ac, ao, ab, kc, st, ma, mk, se, ce, ad, sh, kp, nu) x y := by
  subst hx hy
  have H := te_xcl_L (s := s) he h (e - s) s (by omega) (Nat.le_refl _)
  rw [te_cl0 ce (Nat.le_refl s)] at H
  exact Exists.intro _ H
theorem te_xstart (h : post (0, 0, 0, 0, 5, 0, 1, 0, 0, 0, 0, 0, ar, ac, ao, ab, 0, 0, ma, mk, se, (te_cl ce 0 72), ad, sh, kp, nu)) : wpX_startAnew post (r, cc, pn, tp, bo, ins, wr, ot, wt, sr, sc, sp, ar, ac, ao, ab, kc, st, ma, mk, se, ce, ad, sh, kp, nu) := by
  unfold wpX_startAnew
  exact te_xclear 0 72 rfl rfl (by omega) (by omega) h
theorem te_xin_L (h : post (r, cc, pn, tp, bo, ins, wr, ot, wt, sr, sc, sp, ar, ac, ao, ab, kc, st, ma, mk, se, ce, ad, (te_cl sh 0 72), kp, nu)) : ∀ g p : Nat, p + g = 72 → wX_init_49 post r cc pn tp bo ins wr ot wt sr sc sp ar ac ao ab kc st ma mk se (g + 1) (nI p) ce ad (te_cl sh 0 p) kp nu := by
  intro g
  induction g with
  | zero =>
    intro p hp
    obtain rfl : p = 72 := by omega
    exact br_t (nI_le (a := 72) (b := 72) (by omega) (by omega)) h
  | succ g ih =>
    intro p hp
    refine br_f (nI_ge (b := 72) (by omega) (by omega)) ⟨vp_in_nI (by omega) (by omega), nm_r ?_ (nm_r (nI_1 p) (ih (p + 1) (by omega)))⟩
    rw [nI_clamp (by omega)]
    exact te_clS sh (Nat.zero_le p)
theorem te_xinit (h : post (0, 0, 0, 0, 5, 0, 1, 0, 0, 0, 0, 0, 0, 0, 0, 0, 0, 0, 0, 0, 0, (te_cl (fun _ => 0) 0 72), (fun _ => 0), (te_cl (fun _ => 0) 0 72), (fun _ => 0), (fun _ => 0))) : wpX_init post := by
  unfold wpX_init
  refine te_xstart ?_
  have H := te_xin_L (sh := fun _ => 0) h 72 0 rfl
  rw [te_cl0 (fun _ => 0) (Nat.le_refl 0)] at H
  exact Exists.intro _ H
theorem te_xop_L (h : post (r, cc, pn, tp, bo, ins, wr, ot, wt, sr, sc, sp, ar, ac, ao, ab, kc, st, ma, mk, se, ce, ad, sh, kp, (te_zr nu 4))) : ∀ g p : Nat, p + g = 4 → wX_openSequence_22 post r cc pn tp bo ins wr ot wt sr sc sp ar ac ao ab kc st ma mk se (g + 1) (nI p) ce ad sh kp (te_zr nu p) := by
  intro g
  induction g with
  | zero =>
    intro p hp
    obtain rfl : p = 4 := by omega
    exact br_t (nI_le (a := 4) (b := 4) (by omega) (by omega)) h
  | succ g ih =>
    intro p hp
    refine br_f (nI_ge (b := 4) (by omega) (by omega)) ⟨vp_in_nI (by omega) (by omega), nm_r ?_ (nm_r (nI_1 p) (ih (p + 1) (by omega)))⟩
    rw [nI_clamp (by omega)]
    exact te_zrS nu p
theorem te_xopen (h : post (r, cc, pn, tp, bo, ins, wr, ot, wt, sr, sc, sp, ar, ac, ao, ab, kc, 2, 1, 0, 0, ce, ad, sh, kp, (te_zr nu 4))) : wpX_openSequence post (r, cc, pn, tp, bo, ins, wr, ot, wt, sr, sc, sp, ar, ac, ao, ab, kc, st, ma, mk, se, ce, ad, sh, kp, nu) := by
  have H := te_xop_L h 4 0 rfl
  rw [te_zr0] at H
  exact Exists.intro _ H
theorem te_xk2_L {K : Nat} (hK : K ≤ 8) (h : post (r, cc, pn, tp, bo, ins, wr, ot, wt, sr, sc, sp, ar, ac, ao, ab, (nI (te_k8 K)), st, ma, mk, se, ce, ad, sh, (te_kf kp ce 12), nu)) : ∀ g p : Nat, p + g = 12 → wX_keepFirstRow_32 post r cc pn tp bo ins wr ot wt sr sc sp ar ac ao ab (nI K) st ma mk se (g + 1) (nI p) ce ad sh (te_kf kp ce p) nu := by
  intro g
  induction g with
  | zero =>
    intro p hp
    obtain rfl : p = 12 := by omega
    refine br_t (nI_le (a := 12) (b := 12) (by omega) (by omega)) ?_
    unfold te_k8 at h
    by_cases h8 : 8 ≤ K
    · obtain rfl : K = 8 := by omega
      exact br_t (nI_le (a := 8) (b := 8) (by omega) (by omega)) h
    · rw [te_minC (by omega)] at h
      exact br_f (nI_ge (b := 8) (by omega) (by omega)) (nm_r (nI_1 K) h)
  | succ g ih =>
    intro p hp
    refine br_f (nI_ge (b := 12) (by omega) (by omega)) ⟨vp_in_nI (by omega) (by omega), vp_in_nI (by omega) (by omega), nm_r ?_ (nm_r (nI_1 p) (ih (p + 1) (by omega)))⟩
    rw [nI_clamp (by omega)]
    exact te_kfS kp ce p
theorem te_xk1_L {K : Nat} (hK : K ≤ 8) (h : post (r, cc, pn, tp, bo, ins, wr, ot, wt, sr, sc, sp, ar, ac, ao, ab, (nI (te_k8 K)), st, ma, mk, se, ce, ad, sh, (te_keep kp ce), nu)) : ∀ g p : Nat, p = g + 11 → p < 96 → wX_keepFirstRow_3 post r cc pn tp bo ins wr ot wt sr sc sp ar ac ao ab (nI K) st ma mk se (g + 1) (nI p) ce ad sh (te_kd kp (p + 1)) nu := by
  intro g
  induction g with
  | zero =>
    intro p hp hq
    obtain rfl : p = 11 := by omega
    refine br_t (nI_lt (a := 11) (b := 12) (by omega) (by omega)) ?_
    have H := te_xk2_L hK h 12 0 rfl
    rw [te_kf0] at H
    exact Exists.intro _ H
  | succ g ih =>
    intro p hp hq
    obtain ⟨q, rfl⟩ : ∃ q, p = q + 1 := ⟨p - 1, by omega⟩
    have e12 : nI (q + 1) - 12 = nI (q + 1 - 12) := pk_sub (b := 12) (by omega)
    refine br_f (nI_nlt (b := 12) (by omega) (by omega)) ⟨?_, vp_in_nI (by omega) (by omega), nm_r ?_ (nm_r (pk_m1 q) (ih q (by omega) (by omega)))⟩
    · rw [e12]
      exact vp_in_nI (by omega) (by omega)
    · rw [e12, nI_clamp (by omega), nI_clamp (by omega)]
      exact te_kdS kp (by omega) (by omega)
theorem te_xkeep {K : Nat} (hK : K ≤ 8) (h : post (r, cc, pn, tp, bo, ins, wr, ot, wt, sr, sc, sp, ar, ac, ao, ab, (nI (te_k8 K)), st, ma, mk, se, ce, ad, sh, (te_keep kp ce), nu)) : wpX_keepFirstRow post (r, cc, pn, tp, bo, ins, wr, ot, wt, sr, sc, sp, ar, ac, ao, ab, (nI K), st, ma, mk, se, ce, ad, sh, kp, nu) := by
  have H := te_xk1_L hK h 84 95 rfl (by omega)
  rw [te_kd0] at H
  exact Exists.intro _ H
theorem te_xmb_L {s e d : Nat} (he : e ≤ 72) (hd : 0 < d) (hd2 : d < 1048576) (h : post (r, cc, pn, tp, bo, ins, wr, ot, wt, sr, sc, sp, ar, ac, ao, ab, kc, st, ma, mk, se, (te_mb ce s e d), ad, sh, kp, nu)) : ∀ g p : Nat, p + g = e → s ≤ p → wX_moveBack_3 post (nI e) (nI d) r cc pn tp bo ins wr ot wt sr sc sp ar ac ao ab kc st ma mk se (g + 1) (nI p) (te_mbI ce s e d p) ad sh kp nu := by
  intro g
  induction g with
  | zero =>
    intro p hp hs
    obtain rfl : p = e := by omega
    exact br_t (nI_le (Nat.le_refl _) (by omega)) h
  | succ g ih =>
    intro p hp hs
    refine br_f (nI_ge (by omega) (by omega)) ?_
    by_cases h2 : p + d < e
    · refine br_f ?_ ⟨?_, vp_in_nI (by omega) (by omega), nm_r ?_ (nm_r (nI_1 p) (ih (p + 1) (by omega) (by omega)))⟩
      · rw [nI_add]
        exact nI_ge h2 (by omega)
      · rw [nI_add]
        exact vp_in_nI (by omega) (by omega)
      · rw [nI_add, nI_clamp (by omega), nI_clamp (by omega)]
        exact te_mbIa ce hs hd h2
    · refine br_t ?_ ⟨vp_in_nI (by omega) (by omega), nm_r ?_ (nm_r (nI_1 p) (ih (p + 1) (by omega) (by omega)))⟩
      · rw [nI_add]
        exact nI_le (by omega) (by omega)
      · rw [nI_clamp (by omega)]
        exact te_mbIb ce hs h2
theorem te_xmoveBack {x y z : Int32} (s e d : Nat) (hx : x = nI s) (hy : y = nI e) (hz : z = nI d) (hse : s ≤ e) (he : e ≤ 72) (hd : 0 < d) (hd2 : d < 1048576) (h : post (r, cc, pn, tp, bo, ins, wr, ot, wt, sr, sc, sp, ar, ac, ao, ab, kc, st, ma, mk, se, (te_mb ce s e d), ad, sh, kp, nu)) : wpX_moveBack post (r, cc, pn, tp, bo, ins, wr, ot, wt, sr, sc, sp, ar, ac, ao, ab, kc, st, ma, mk, se, ce, ad, sh, kp, nu) x y z := by
  subst hx hy hz
  have H := te_xmb_L he hd hd2 h (e - s) s (by omega) (Nat.le_refl _)
  rw [te_mbI0] at H
  exact Exists.intro _ H
theorem te_xmo_L {s e d : Nat} (he : e ≤ 72) (hd : 0 < d) (hd2 : d < 1048576) (h : post (r, cc, pn, tp, bo, ins, wr, ot, wt, sr, sc, sp, ar, ac, ao, ab, kc, st, ma, mk, se, (te_mo ce s e d), ad, sh, kp, nu)) : ∀ g p : Nat, p = s + g → p ≤ e → wX_moveOn_5 post (nI s) (nI d) r cc pn tp bo ins wr ot wt sr sc sp ar ac ao ab kc st ma mk se (g + 1) (nI p + (-1)) (te_moI ce s e d p) ad sh kp nu := by
  intro g
  induction g with
  | zero =>
    intro p hp hq
    obtain rfl : p = s := by omega
    exact br_t (te_m1lt (by omega)) h
  | succ g ih =>
    intro p hp hq
    obtain ⟨q, rfl⟩ : ∃ q, p = q + 1 := ⟨p - 1, by omega⟩
    rw [pk_m1 q]
    refine br_f (nI_nlt (by omega) (by omega)) ?_
    by_cases h2 : s + d ≤ q
    · have eq : nI q - nI d = nI (q - d) := te_nsub (by omega)
      refine br_f ?_ ⟨?_, vp_in_nI (by omega) (by omega), nm_r ?_ (nm_e (ih q (by omega) (by omega)))⟩
      · rw [eq]
        exact nI_nlt (by omega) (by omega)
      · rw [eq]
        exact vp_in_nI (by omega) (by omega)
      · rw [eq, nI_clamp (by omega), nI_clamp (by omega)]
        exact te_moIa ce hd (by omega) h2
    · refine br_t ((te_subLt (by omega) (by omega) (by omega)).mpr (by omega)) ⟨vp_in_nI (by omega) (by omega), nm_r ?_ (nm_e (ih q (by omega) (by omega)))⟩
      rw [nI_clamp (by omega)]
      exact te_moIb ce (by omega) h2
theorem te_xmoveOn {x y z : Int32} (s e d : Nat) (hx : x = nI s) (hy : y = nI e) (hz : z = nI d) (hse : s ≤ e) (he : e ≤ 72) (hd : 0 < d) (hd2 : d < 1048576) (h : post (r, cc, pn, tp, bo, ins, wr, ot, wt, sr, sc, sp, ar, ac, ao, ab, kc, st, ma, mk, se, (te_mo ce s e d), ad, sh, kp, nu)) : wpX_moveOn post (r, cc, pn, tp, bo, ins, wr, ot, wt, sr, sc, sp, ar, ac, ao, ab, kc, st, ma, mk, se, ce, ad, sh, kp, nu) x y z := by
  subst hx hy hz
  have H := te_xmo_L he hd hd2 h (e - s) e (by omega) (Nat.le_refl _)
  rw [te_moI0] at H
  unfold wpX_moveOn
  exact nm_r (te_sub1 _) (Exists.intro _ H)
theorem te_xsu_L {T B n : Nat} (hTB : T ≤ B) (hB : B < 6) (hn : n < 1000) : ∀ (g i K : Nat) (c k : Nat → Int32), i + g = n → K ≤ 8 → post (r, cc, pn, (nI T), (nI B), ins, wr, ot, wt, sr, sc, sp, ar, ac, ao, ab, (nI (te_sn (te_q ot T) T B g K c k).1), st, ma, mk, se, ((te_sn (te_q ot T) T B g K c k).2.1), ad, sh, ((te_sn (te_q ot T) T B g K c k).2.2), nu) → wX_scrollUp_2 post (nI n) (g + 1) (nI i) r cc pn (nI T) (nI B) ins wr ot wt sr sc sp ar ac ao ab (nI K) st ma mk se c ad sh k nu := by
  intro g
  induction g with
  | zero =>
    intro i K c k hi hK h
    obtain rfl : i = n := by omega
    exact br_t (nI_le (Nat.le_refl _) (by omega)) h
  | succ g ih =>
    intro i K c k hi hK h
    refine br_f (nI_ge (by omega) (by omega)) ?_
    have Q : ∀ (K' : Nat) (k' : Nat → Int32), K' ≤ 8 → post (r, cc, pn, (nI T), (nI B), ins, wr, ot, wt, sr, sc, sp, ar, ac, ao, ab, (nI (te_sn (te_q ot T) T B g K' (te_mb c (12 * T) (12 * (B + 1)) 12) k').1), st, ma, mk, se, ((te_sn (te_q ot T) T B g K' (te_mb c (12 * T) (12 * (B + 1)) 12) k').2.1), ad, sh, ((te_sn (te_q ot T) T B g K' (te_mb c (12 * T) (12 * (B + 1)) 12) k').2.2), nu) → wX_scrollUp_25 post (wX_scrollUp_2 post (nI n) (g + 1)) (nI n) (nI i) r cc pn (nI T) (nI B) ins wr ot wt sr sc sp ar ac ao ab (nI K') st ma mk se c ad sh k' nu := by
      intro K' k' hK' h'
      unfold wX_scrollUp_25
      refine te_xmoveBack (12 * T) (12 * (B + 1)) 12 (te_m12 T) (te_b12 B) rfl (by omega) (by omega) (by omega) (by omega) ?_
      exact nm_r (nI_1 i) (ih (i + 1) K' (te_mb c (12 * T) (12 * (B + 1)) 12) k' (by omega) hK' h')
    by_cases h0 : ot = 0
    · by_cases hT : T = 0
      · rw [te_qT h0 hT] at h Q
        refine br_t h0 (br_t (by rw [hT, nI_0]) ?_)
        exact te_xkeep hK (Q (te_k8 K) (te_keep k c) (te_k8Le K) h)
      · rw [te_qN hT] at h Q
        exact br_t h0 (br_f (nI_ne0 (by omega) (by omega)) (Q K k hK h))
    · rw [te_qO h0] at h Q
      exact br_f h0 (Q K k hK h)
theorem te_xscrollUp {T B K : Nat} {x : Int32} (n : Nat) (hx : x = nI n) (hTB : T ≤ B) (hB : B < 6) (hn : n < 1000) (hK : K ≤ 8) (h : post (r, cc, pn, (nI T), (nI B), ins, wr, ot, wt, sr, sc, sp, ar, ac, ao, ab, (nI (te_sn (te_q ot T) T B n K ce kp).1), st, ma, mk, se, ((te_sn (te_q ot T) T B n K ce kp).2.1), ad, sh, ((te_sn (te_q ot T) T B n K ce kp).2.2), nu)) : wpX_scrollUp post (r, cc, pn, (nI T), (nI B), ins, wr, ot, wt, sr, sc, sp, ar, ac, ao, ab, (nI K), st, ma, mk, se, ce, ad, sh, kp, nu) x := by
  subst hx
  exact Exists.intro _ (te_xsu_L hTB hB hn n 0 K ce kp (by omega) hK h)
theorem te_xlineFeed {T B R K : Nat} (hTB : T ≤ B) (hB : B < 6) (hR : R < 6) (hK : K ≤ 8) (h : post ((nI (te_lfR R B)), cc, pn, (nI T), (nI B), ins, wr, ot, wt, sr, sc, sp, ar, ac, ao, ab, (nI (te_lfW (te_q ot T) T B R K ce kp).1), st, ma, mk, se, ((te_lfW (te_q ot T) T B R K ce kp).2.1), ad, sh, ((te_lfW (te_q ot T) T B R K ce kp).2.2), nu)) : wpX_lineFeed post ((nI R), cc, pn, (nI T), (nI B), ins, wr, ot, wt, sr, sc, sp, ar, ac, ao, ab, (nI K), st, ma, mk, se, ce, ad, sh, kp, nu) := by
  unfold wpX_lineFeed
  by_cases h1 : R = B
  · have e1 : te_lfR R B = R := if_pos h1
    have e2 : te_lfW (te_q ot T) T B R K ce kp = te_sn (te_q ot T) T B 1 K ce kp := if_pos h1
    rw [e1, e2] at h
    refine br_t (congrArg nI h1) ?_
    exact te_xscrollUp 1 rfl hTB hB (by omega) hK h
  · have e2 : te_lfW (te_q ot T) T B R K ce kp = (K, ce, kp) := if_neg h1
    rw [e2] at h
    refine br_f (te_ne h1 (by omega) (by omega)) ?_
    by_cases h5 : R < 5
    · have e1 : te_lfR R B = R + 1 := by unfold te_lfR; rw [if_neg h1, if_pos h5]
      rw [e1] at h
      exact br_f (nI_ge (b := 5) h5 (by omega)) (nm_r (nI_1 R) h)
    · have e1 : te_lfR R B = R := by unfold te_lfR; rw [if_neg h1, if_neg h5]
      rw [e1] at h
      exact br_t (nI_le (a := 5) (by omega) (by omega)) h
theorem te_xscrollDown {T B : Nat} {x : Int32} (n : Nat) (hx : x = nI n) (hTB : T ≤ B) (hB : B < 6) (h0 : 0 < n) (hn : n < 1000) (h : post (r, cc, pn, (nI T), (nI B), ins, wr, ot, wt, sr, sc, sp, ar, ac, ao, ab, kc, st, ma, mk, se, (te_mo ce (12 * T) (12 * (B + 1)) (12 * n)), ad, sh, kp, nu)) : wpX_scrollDown post (r, cc, pn, (nI T), (nI B), ins, wr, ot, wt, sr, sc, sp, ar, ac, ao, ab, kc, st, ma, mk, se, ce, ad, sh, kp, nu) x := by
  subst hx
  unfold wpX_scrollDown
  exact te_xmoveOn (12 * T) (12 * (B + 1)) (12 * n) (te_m12 T) (te_b12 B) (te_m12 n) (by omega) (by omega) (by omega) (by omega) h
theorem te_xreverse {T B R : Nat} (hTB : T ≤ B) (hB : B < 6) (hR : R < 6) (h : post ((nI (te_rlR R T)), cc, pn, (nI T), (nI B), ins, wr, ot, wt, sr, sc, sp, ar, ac, ao, ab, kc, st, ma, mk, se, (te_rlC R T B ce), ad, sh, kp, nu)) : wpX_reverseLineFeed post ((nI R), cc, pn, (nI T), (nI B), ins, wr, ot, wt, sr, sc, sp, ar, ac, ao, ab, kc, st, ma, mk, se, ce, ad, sh, kp, nu) := by
  unfold wpX_reverseLineFeed
  by_cases h1 : R = T
  · have e1 : te_rlR R T = R := if_pos h1
    have e2 : te_rlC R T B ce = te_mo ce (12 * T) (12 * (B + 1)) 12 := if_pos h1
    rw [e1, e2] at h
    refine br_t (congrArg nI h1) ?_
    exact te_xscrollDown 1 rfl hTB hB (by omega) (by omega) h
  · have e1 : te_rlR R T = R - 1 := if_neg h1
    have e2 : te_rlC R T B ce = ce := if_neg h1
    rw [e1, e2] at h
    refine br_f (te_ne h1 (by omega) (by omega)) ?_
    by_cases h0 : R = 0
    · subst h0
      exact br_t (nI_le (a := 0) (b := 0) (by omega) (by omega)) h
    · exact br_f (nI_nle (by omega) (by omega)) (nm_r (te_ns1 (by omega)) h)
end
end
section
/-! the component: what is put aside, the pen, what is shown -/
section
variable {post : SX → Prop} {r cc pn tp bo ins wr ot wt sr sc sp ar ac ao ab kc st ma mk se : Int32} {ce ad sh kp nu : Nat → Int32}
theorem te_xpa_L (h : post (0, 0, pn, 0, 5, ins, wr, ot, wt, sr, sc, sp, r, cc, tp, bo, kc, st, ma, mk, se, (te_cl ce 0 72), (te_cp ce ad 72), sh, kp, nu)) : ∀ g p : Nat, p + g = 72 → wX_putAside_2 post r cc pn tp bo ins wr ot wt sr sc sp ar ac ao ab kc st ma mk se (g + 1) (nI p) (te_cl ce 0 p) (te_cp ce ad p) sh kp nu := by
  intro g
  induction g with
  | zero =>
    intro p hp
    obtain rfl : p = 72 := by omega
    exact br_t (nI_le (a := 72) (b := 72) (by omega) (by omega)) h
  | succ g ih =>
    intro p hp
    refine br_f (nI_ge (b := 72) (by omega) (by omega)) ⟨vp_in_nI (by omega) (by omega), vp_in_nI (by omega) (by omega), nm_r ?_ ⟨vp_in_nI (by omega) (by omega), nm_r ?_ (nm_r (nI_1 p) (ih (p + 1) (by omega)))⟩⟩
    · rw [nI_clamp (by omega), te_clP]
      exact te_cpS ce ad p
    · rw [nI_clamp (by omega)]
      exact te_clS ce (Nat.zero_le p)
theorem te_xputAside (h : post (0, 0, pn, 0, 5, ins, wr, ot, wt, sr, sc, sp, r, cc, tp, bo, kc, st, ma, mk, se, (te_cl ce 0 72), (te_cp ce ad 72), sh, kp, nu)) : wpX_putAside post (r, cc, pn, tp, bo, ins, wr, ot, wt, sr, sc, sp, ar, ac, ao, ab, kc, st, ma, mk, se, ce, ad, sh, kp, nu) := by
  have H := te_xpa_L (ar := ar) (ac := ac) (ao := ao) (ab := ab) h 72 0 rfl
  rw [te_cl0 ce (Nat.le_refl 0), te_cp0] at H
  exact Exists.intro _ H
theorem te_xbb_L (h : post (ar, ac, pn, ao, ab, ins, wr, ot, wt, sr, sc, sp, ar, ac, ao, ab, kc, st, ma, mk, se, (te_cp ad ce 72), ad, sh, kp, nu)) : ∀ g p : Nat, p + g = 72 → wX_bringBack_2 post r cc pn tp bo ins wr ot wt sr sc sp ar ac ao ab kc st ma mk se (g + 1) (nI p) (te_cp ad ce p) ad sh kp nu := by
  intro g
  induction g with
  | zero =>
    intro p hp
    obtain rfl : p = 72 := by omega
    exact br_t (nI_le (a := 72) (b := 72) (by omega) (by omega)) h
  | succ g ih =>
    intro p hp
    refine br_f (nI_ge (b := 72) (by omega) (by omega)) ⟨vp_in_nI (by omega) (by omega), vp_in_nI (by omega) (by omega), nm_r ?_ (nm_r (nI_1 p) (ih (p + 1) (by omega)))⟩
    rw [nI_clamp (by omega)]
    exact te_cpS ad ce p
theorem te_xbringBack (h : post (ar, ac, pn, ao, ab, ins, wr, ot, wt, sr, sc, sp, ar, ac, ao, ab, kc, st, ma, mk, se, (te_cp ad ce 72), ad, sh, kp, nu)) : wpX_bringBack post (r, cc, pn, tp, bo, ins, wr, ot, wt, sr, sc, sp, ar, ac, ao, ab, kc, st, ma, mk, se, ce, ad, sh, kp, nu) := by
  have H := te_xbb_L (r := r) (cc := cc) (tp := tp) (bo := bo) h 72 0 rfl
  rw [te_cp0] at H
  exact Exists.intro _ H
/-- one number of m -/
theorem te_xcp_L {n : Nat} {v : Nat → Nat} (hn : n ≤ 4) (hv : ∀ j, j < 4 → v j ≤ 99 ∧ nu j = nI (v j)) : ∀ g i P : Nat, i + g = n → P < 8 → post (r, cc, (nI (te_pp v g i P)), tp, bo, ins, wr, ot, wt, sr, sc, sp, ar, ac, ao, ab, kc, st, ma, mk, se, ce, ad, sh, kp, nu) → wX_changePen_13 post (nI n) r cc tp bo ins wr ot wt sr sc sp ar ac ao ab kc st ma mk se ce ad sh kp nu (g + 1) (nI i) (nI P) := by
  intro g
  induction g with
  | zero =>
    intro i P hi hP h
    obtain rfl : i = n := by omega
    exact br_t (nI_le (Nat.le_refl _) (by omega)) h
  | succ g ih =>
    intro i P hi hP h
    obtain ⟨hv9, ev⟩ := hv i (by omega)
    have H := ih (i + 1) (te_pv P (v i)) (by omega) (te_pv8 hP) h
    obtain ⟨t1, t2, t4, t22, t24, t27, -, -, -⟩ := te_pvT ⟨P, hP⟩
    refine br_f (nI_ge (by omega) (by omega)) ⟨vp_in_nI (by omega) (by omega), nm_r (e' := nI (v i)) (by rw [nI_clamp (by omega)]; exact ev) ?_⟩
    unfold te_pv at H
    by_cases h0 : v i = 0
    · rw [if_pos h0] at H
      exact br_t (by rw [h0, nI_0]) (nm_r (nI_1 i) H)
    rw [if_neg h0] at H
    refine br_f (te_ne (b := 0) h0 (by omega) (by omega)) ?_
    by_cases h1 : v i = 1
    · rw [if_pos h1] at H
      exact br_t (congrArg nI h1) (nm_r t1 (nm_r (nI_1 i) H))
    rw [if_neg h1] at H
    refine br_f (te_ne (b := 1) h1 (by omega) (by omega)) ?_
    by_cases h4 : v i = 4
    · rw [if_pos h4] at H
      exact br_t (congrArg nI h4) (nm_r t2 (nm_r (nI_1 i) H))
    rw [if_neg h4] at H
    refine br_f (te_ne (b := 4) h4 (by omega) (by omega)) ?_
    by_cases h7 : v i = 7
    · rw [if_pos h7] at H
      exact br_t (congrArg nI h7) (nm_r t4 (nm_r (nI_1 i) H))
    rw [if_neg h7] at H
    refine br_f (te_ne (b := 7) h7 (by omega) (by omega)) ?_
    by_cases h22 : v i = 22
    · rw [if_pos h22] at H
      exact br_t (congrArg nI h22) (nm_r t22 (nm_r (nI_1 i) H))
    rw [if_neg h22] at H
    refine br_f (te_ne (b := 22) h22 (by omega) (by omega)) ?_
    by_cases h24 : v i = 24
    · rw [if_pos h24] at H
      exact br_t (congrArg nI h24) (nm_r t24 (nm_r (nI_1 i) H))
    rw [if_neg h24] at H
    refine br_f (te_ne (b := 24) h24 (by omega) (by omega)) ?_
    by_cases h27 : v i = 27
    · rw [if_pos h27] at H
      exact br_t (congrArg nI h27) (nm_r t27 (nm_r (nI_1 i) H))
    rw [if_neg h27] at H
    exact br_f (te_ne (b := 27) h27 (by omega) (by omega)) (nm_r (nI_1 i) H)
theorem te_xchangePen {E P : Nat} {v : Nat → Nat} (hE : E ≤ 4) (hP : P < 8) (hv : ∀ j, j < 4 → v j ≤ 99 ∧ nu j = nI (v j)) (h : post (r, cc, (nI (te_pp v (te_min (E + 1) 4) 0 P)), tp, bo, ins, wr, ot, wt, sr, sc, sp, ar, ac, ao, ab, kc, st, ma, mk, (nI E), ce, ad, sh, kp, nu)) : wpX_changePen post (r, cc, (nI P), tp, bo, ins, wr, ot, wt, sr, sc, sp, ar, ac, ao, ab, kc, st, ma, mk, (nI E), ce, ad, sh, kp, nu) := by
  unfold wpX_changePen
  refine te_xless (E + 1) 4 (nI_1 E) rfl (by omega) (by omega) ?_
  exact Exists.intro _ (te_xcp_L (te_minLe _ _) hv (te_min (E + 1) 4) 0 P (by omega) hP h)
theorem te_xrf_L {pst : Int32 → SX → Prop} (h : pst (nI (te_ct ce sh 72)) (r, cc, pn, tp, bo, ins, wr, ot, wt, sr, sc, sp, ar, ac, ao, ab, kc, st, ma, mk, se, ce, ad, (te_cp ce sh 72), kp, nu)) : ∀ g p : Nat, p + g = 72 → wX_refresh_4 pst r cc pn tp bo ins wr ot wt sr sc sp ar ac ao ab kc st ma mk se (g + 1) (nI (te_ct ce sh p)) (nI p) ce ad (te_cp ce sh p) kp nu := by
  intro g
  induction g with
  | zero =>
    intro p hp
    obtain rfl : p = 72 := by omega
    exact br_t (nI_le (a := 72) (b := 72) (by omega) (by omega)) h
  | succ g ih =>
    intro p hp
    have H := ih (p + 1) (by omega)
    refine br_f (nI_ge (b := 72) (by omega) (by omega)) ⟨vp_in_nI (by omega) (by omega), vp_in_nI (by omega) (by omega), ?_⟩
    rw [nI_clamp (by omega), te_cpJ]
    by_cases hc : ce p = sh p
    · have e : te_ct ce sh (p + 1) = te_ct ce sh p := by
        simp only [te_ct, if_pos hc, Nat.add_zero]
      rw [e, ← te_cpN ce sh p hc] at H
      exact br_t hc.symm (nm_r (nI_1 p) H)
    · have e : te_ct ce sh (p + 1) = te_ct ce sh p + 1 := by
        simp only [te_ct, if_neg hc]
      rw [e, ← te_cpS ce sh p] at H
      exact br_f (fun z => hc z.symm) ⟨vp_in_nI (by omega) (by omega), vp_in_nI (by omega) (by omega), nm_e (nm_r (nI_1 _) (nm_r (nI_1 p) H))⟩
theorem te_xrefresh {pst : Int32 → SX → Prop} (h : pst (nI (te_ct ce sh 72)) (r, cc, pn, tp, bo, ins, wr, ot, wt, sr, sc, sp, ar, ac, ao, ab, kc, st, ma, mk, se, ce, ad, (te_cp ce sh 72), kp, nu)) : wpX_refresh pst (r, cc, pn, tp, bo, ins, wr, ot, wt, sr, sc, sp, ar, ac, ao, ab, kc, st, ma, mk, se, ce, ad, sh, kp, nu) := by
  have H := te_xrf_L h 72 0 rfl
  rw [te_cp0] at H
  exact Exists.intro _ H
theorem te_xst_L {pst : Int32 → Prop} (h : pst (nI (te_ct ce sh 72))) : ∀ g p : Nat, p + g = 72 → wX_stale_4 pst r cc pn tp bo ins wr ot wt sr sc sp ar ac ao ab kc st ma mk se ce ad sh kp nu (g + 1) (nI (te_ct ce sh p)) (nI p) := by
  intro g
  induction g with
  | zero =>
    intro p hp
    obtain rfl : p = 72 := by omega
    exact br_t (nI_le (a := 72) (b := 72) (by omega) (by omega)) h
  | succ g ih =>
    intro p hp
    have H := ih (p + 1) (by omega)
    refine br_f (nI_ge (b := 72) (by omega) (by omega)) ⟨vp_in_nI (by omega) (by omega), vp_in_nI (by omega) (by omega), ?_⟩
    rw [nI_clamp (by omega)]
    by_cases hc : ce p = sh p
    · have e : te_ct ce sh (p + 1) = te_ct ce sh p := by
        simp only [te_ct, if_pos hc, Nat.add_zero]
      rw [e] at H
      exact br_t hc.symm (nm_r (nI_1 p) H)
    · have e : te_ct ce sh (p + 1) = te_ct ce sh p + 1 := by
        simp only [te_ct, if_neg hc]
      rw [e] at H
      exact br_f (fun z => hc z.symm) (nm_r (nI_1 _) (nm_r (nI_1 p) H))
theorem te_xstale {pst : Int32 → Prop} (h : pst (nI (te_ct ce sh 72))) : wpX_stale pst (r, cc, pn, tp, bo, ins, wr, ot, wt, sr, sc, sp, ar, ac, ao, ab, kc, st, ma, mk, se, ce, ad, sh, kp, nu) := Exists.intro _ (te_xst_L h 72 0 rfl)
end
end
section
/-! the reference's methods, each with a general post -/
section
variable {post : SY → Prop} {r cc pn tp bo ins wr ot wt sr sc sp ar ac ao ab kc st bg mq mn : Int32} {ce sh aq kp nq : Nat → Int32}
theorem te_yem_L {s e : Nat} (he : e < 72) (h : post (r, cc, pn, tp, bo, ins, wr, ot, wt, sr, sc, sp, ar, ac, ao, ab, kc, st, bg, mq, mn, (te_cl ce s (e + 1)), sh, aq, kp, nq)) : ∀ g p : Nat, p + g = e + 1 → s ≤ p → wY_empty_2 post (nI e) r cc pn tp bo ins wr ot wt sr sc sp ar ac ao ab kc st bg mq mn (g + 1) (nI p) (te_cl ce s p) sh aq kp nq := by
  intro g
  induction g with
  | zero =>
    intro p hp hs
    obtain rfl : p = e + 1 := by omega
    exact br_t (nI_lt (by omega) (by omega)) h
  | succ g ih =>
    intro p hp hs
    refine br_f (nI_nlt (by omega) (by omega)) ⟨vp_in_nI (by omega) (by omega), nm_r ?_ (nm_r (nI_1 p) (ih (p + 1) (by omega) (by omega)))⟩
    rw [nI_clamp (by omega)]
    exact te_clS ce hs
/-- from s to e, e itself too -/
theorem te_yempty {x y : Int32} (s e : Nat) (hx : x = nI s) (hy : y = nI e) (hse : s ≤ e + 1) (he : e < 72) (h : post (r, cc, pn, tp, bo, ins, wr, ot, wt, sr, sc, sp, ar, ac, ao, ab, kc, st, bg, mq, mn, (te_cl ce s (e + 1)), sh, aq, kp, nq)) : wpY_empty post (r, cc, pn, tp, bo, ins, wr, ot, wt, sr, sc, sp, ar, ac, ao, ab, kc, st, bg, mq, mn, ce, sh, aq, kp, nq) x y := by
  subst hx hy
  have H := te_yem_L (s := s) he h (e + 1 - s) s (by omega) (Nat.le_refl _)
  rw [te_cl0 ce (Nat.le_refl s)] at H
  exact Exists.intro _ H
theorem te_yrenew (h : post (0, 0, 0, 0, 5, 0, 1, 0, 0, 0, 0, 0, ar, ac, ao, ab, 0, st, bg, mq, mn, (te_cl ce 0 72), sh, aq, kp, nq)) : wpY_renew post (r, cc, pn, tp, bo, ins, wr, ot, wt, sr, sc, sp, ar, ac, ao, ab, kc, st, bg, mq, mn, ce, sh, aq, kp, nq) := by
  unfold wpY_renew
  exact te_yempty 0 71 rfl rfl (by omega) (by omega) h
theorem te_yin_L (h : post (r, cc, pn, tp, bo, ins, wr, ot, wt, sr, sc, sp, ar, ac, ao, ab, kc, st, bg, mq, mn, ce, (te_cl sh 0 72), aq, kp, nq)) : ∀ g p : Nat, p + g = 72 → wY_init_49 post r cc pn tp bo ins wr ot wt sr sc sp ar ac ao ab kc st bg mq mn (g + 1) (nI p) ce (te_cl sh 0 p) aq kp nq := by
  intro g
  induction g with
  | zero =>
    intro p hp
    obtain rfl : p = 72 := by omega
    exact br_t (nI_le (a := 72) (b := 72) (by omega) (by omega)) h
  | succ g ih =>
    intro p hp
    refine br_f (nI_ge (b := 72) (by omega) (by omega)) ⟨vp_in_nI (by omega) (by omega), nm_r ?_ (nm_r (nI_1 p) (ih (p + 1) (by omega)))⟩
    rw [nI_clamp (by omega)]
    exact te_clS sh (Nat.zero_le p)
theorem te_yinit (h : post (0, 0, 0, 0, 5, 0, 1, 0, 0, 0, 0, 0, 0, 0, 0, 0, 0, 0, 0, 0, 0, (te_cl (fun _ => 0) 0 72), (te_cl (fun _ => 0) 0 72), (fun _ => 0), (fun _ => 0), (fun _ => 0))) : wpY_init post := by
  unfold wpY_init
  refine te_yrenew ?_
  have H := te_yin_L (sh := fun _ => 0) h 72 0 rfl
  rw [te_cl0 (fun _ => 0) (Nat.le_refl 0)] at H
  exact Exists.intro _ H
theorem te_ycr_L {f t : Nat} (hf : f < 6) (ht : t < 6) (hft : f < t ∨ t < f) (h : post (r, cc, pn, tp, bo, ins, wr, ot, wt, sr, sc, sp, ar, ac, ao, ab, kc, st, bg, mq, mn, (te_cr ce f t 12), sh, aq, kp, nq)) : ∀ g p : Nat, p + g = 12 → wY_copyRow_2 post (nI f) (nI t) r cc pn tp bo ins wr ot wt sr sc sp ar ac ao ab kc st bg mq mn (g + 1) (nI p) (te_cr ce f t p) sh aq kp nq := by
  intro g
  induction g with
  | zero =>
    intro p hp
    obtain rfl : p = 12 := by omega
    exact br_t (nI_le (a := 12) (b := 12) (by omega) (by omega)) h
  | succ g ih =>
    intro p hp
    refine br_f (nI_ge (b := 12) (by omega) (by omega)) ⟨?_, ?_, nm_r ?_ (nm_r (nI_1 p) (ih (p + 1) (by omega)))⟩
    · rw [te_iy]
      exact vp_in_nI (by omega) (by omega)
    · rw [te_iy]
      exact vp_in_nI (by omega) (by omega)
    · rw [te_iy, te_iy, nI_clamp (by omega), nI_clamp (by omega)]
      exact te_crS ce (by omega) hft
theorem te_ycopyRow {x y : Int32} (f t : Nat) (hx : x = nI f) (hy : y = nI t) (hf : f < 6) (ht : t < 6) (hft : f < t ∨ t < f) (h : post (r, cc, pn, tp, bo, ins, wr, ot, wt, sr, sc, sp, ar, ac, ao, ab, kc, st, bg, mq, mn, (te_cr ce f t 12), sh, aq, kp, nq)) : wpY_copyRow post (r, cc, pn, tp, bo, ins, wr, ot, wt, sr, sc, sp, ar, ac, ao, ab, kc, st, bg, mq, mn, ce, sh, aq, kp, nq) x y := by
  subst hx hy
  have H := te_ycr_L hf ht hft h 12 0 rfl
  rw [te_cr0] at H
  exact Exists.intro _ H
theorem te_yk2_L {K : Nat} (hK : K ≤ 8) (hc : te_rg ce) (h : post (r, cc, pn, tp, bo, ins, wr, ot, wt, sr, sc, sp, ar, ac, ao, ab, (nI (te_k8 K)), st, bg, mq, mn, ce, sh, aq, (te_kf kp ce 12), nq)) : ∀ g p : Nat, p + g = 12 → wY_keepRow_32 post 0 r cc pn tp bo ins wr ot wt sr sc sp ar ac ao ab (nI K) st bg mq mn (g + 1) (nI p) ce sh aq (te_kf kp ce p) nq := by
  intro g
  induction g with
  | zero =>
    intro p hp
    obtain rfl : p = 12 := by omega
    refine br_t (nI_le (a := 12) (b := 12) (by omega) (by omega)) ?_
    unfold te_k8 at h
    by_cases h8 : 8 ≤ K
    · obtain rfl : K = 8 := by omega
      exact br_t (nI_le (a := 8) (b := 8) (by omega) (by omega)) h
    · rw [te_minC (by omega)] at h
      exact br_f (nI_ge (b := 8) (by omega) (by omega)) (nm_r (nI_1 K) h)
  | succ g ih =>
    intro p hp
    have e0 : (12 * 0 + nI p : Int32) = nI p := (te_iy 0 p).trans (congrArg nI (by omega))
    refine br_f (nI_ge (b := 12) (by omega) (by omega)) ⟨?_, by decide, vp_in_nI (by omega) (by omega), nm_r ?_ (nm_r (nI_1 p) (ih (p + 1) (by omega)))⟩
    · rw [e0]
      exact vp_in_nI (by omega) (by omega)
    · rw [e0, nI_clamp (by omega), te_keepRow hc]
      exact te_kfS kp ce p
theorem te_yk1_L {K : Nat} (hK : K ≤ 8) (hc : te_rg ce) (h : post (r, cc, pn, tp, bo, ins, wr, ot, wt, sr, sc, sp, ar, ac, ao, ab, (nI (te_k8 K)), st, bg, mq, mn, ce, sh, aq, (te_keep kp ce), nq)) : ∀ g p : Nat, p = g + 11 → p < 96 → wY_keepRow_3 post 0 r cc pn tp bo ins wr ot wt sr sc sp ar ac ao ab (nI K) st bg mq mn (g + 1) (nI p) ce sh aq (te_kd kp (p + 1)) nq := by
  intro g
  induction g with
  | zero =>
    intro p hp hq
    obtain rfl : p = 11 := by omega
    refine br_t (nI_lt (a := 11) (b := 12) (by omega) (by omega)) ?_
    have H := te_yk2_L hK hc h 12 0 rfl
    rw [te_kf0] at H
    exact Exists.intro _ H
  | succ g ih =>
    intro p hp hq
    obtain ⟨q, rfl⟩ : ∃ q, p = q + 1 := ⟨p - 1, by omega⟩
    have e12 : nI (q + 1) - 12 = nI (q + 1 - 12) := pk_sub (b := 12) (by omega)
    refine br_f (nI_nlt (b := 12) (by omega) (by omega)) ⟨?_, vp_in_nI (by omega) (by omega), nm_r ?_ (nm_r (pk_m1 q) (ih q (by omega) (by omega)))⟩
    · rw [e12]
      exact vp_in_nI (by omega) (by omega)
    · rw [e12, nI_clamp (by omega), nI_clamp (by omega)]
      exact te_kdS kp (by omega) (by omega)
theorem te_ykeep {K : Nat} (hK : K ≤ 8) (hc : te_rg ce) (h : post (r, cc, pn, tp, bo, ins, wr, ot, wt, sr, sc, sp, ar, ac, ao, ab, (nI (te_k8 K)), st, bg, mq, mn, ce, sh, aq, (te_keep kp ce), nq)) : wpY_keepRow post (r, cc, pn, tp, bo, ins, wr, ot, wt, sr, sc, sp, ar, ac, ao, ab, (nI K), st, bg, mq, mn, ce, sh, aq, kp, nq) 0 := by
  have H := te_yk1_L hK hc h 84 95 rfl (by omega)
  rw [te_kd0] at H
  exact Exists.intro _ H
theorem te_yru_L {f t : Nat} (ht : t < 6) (h : post (r, cc, pn, tp, bo, ins, wr, ot, wt, sr, sc, sp, ar, ac, ao, ab, kc, st, bg, mq, mn, (te_mb ce (12 * f) (12 * (t + 1)) 12), sh, aq, kp, nq)) : ∀ g p : Nat, p + g = t → f ≤ p → wY_rowsUp_2 post (nI t) (g + 1) (nI p) r cc pn tp bo ins wr ot wt sr sc sp ar ac ao ab kc st bg mq mn (te_up ce f p) sh aq kp nq := by
  intro g
  induction g with
  | zero =>
    intro p hp hf
    obtain rfl : p = t := by omega
    refine br_t (nI_le (Nat.le_refl _) (by omega)) ?_
    refine te_yempty (12 * p) (12 * p + 11) (te_12m p) (te_iy11 p) (by omega) (by omega) ?_
    rw [← te_upE ce hf] at h
    exact h
  | succ g ih =>
    intro p hp hf
    refine br_f (nI_ge (by omega) (by omega)) ?_
    refine te_ycopyRow (p + 1) p (nI_1 p) rfl (by omega) (by omega) (by omega) ?_
    have H := ih (p + 1) (by omega) (by omega)
    rw [← te_upS ce hf] at H
    exact nm_r (nI_1 p) H
theorem te_yrowsUp {x y : Int32} (f t : Nat) (hx : x = nI f) (hy : y = nI t) (hft : f ≤ t) (ht : t < 6) (h : post (r, cc, pn, tp, bo, ins, wr, ot, wt, sr, sc, sp, ar, ac, ao, ab, kc, st, bg, mq, mn, (te_mb ce (12 * f) (12 * (t + 1)) 12), sh, aq, kp, nq)) : wpY_rowsUp post (r, cc, pn, tp, bo, ins, wr, ot, wt, sr, sc, sp, ar, ac, ao, ab, kc, st, bg, mq, mn, ce, sh, aq, kp, nq) x y := by
  subst hx hy
  have H := te_yru_L ht h (t - f) f (by omega) (Nat.le_refl _)
  rw [te_up0] at H
  exact Exists.intro _ H
theorem te_yrd_L {f t : Nat} (ht : t < 6) (h : post (r, cc, pn, tp, bo, ins, wr, ot, wt, sr, sc, sp, ar, ac, ao, ab, kc, st, bg, mq, mn, (te_mo ce (12 * f) (12 * (t + 1)) 12), sh, aq, kp, nq)) : ∀ g p : Nat, p = f + g → p ≤ t → wY_rowsDown_2 post (nI f) (g + 1) (nI p) r cc pn tp bo ins wr ot wt sr sc sp ar ac ao ab kc st bg mq mn (te_dn ce t p) sh aq kp nq := by
  intro g
  induction g with
  | zero =>
    intro p hp hq
    obtain rfl : p = f := by omega
    refine br_t (nI_le (Nat.le_refl _) (by omega)) ?_
    refine te_yempty (12 * p) (12 * p + 11) (te_12m p) (te_iy11 p) (by omega) (by omega) ?_
    rw [← te_dnE ce hq] at h
    exact h
  | succ g ih =>
    intro p hp hq
    obtain ⟨q, rfl⟩ : ∃ q, p = q + 1 := ⟨p - 1, by omega⟩
    refine br_f (nI_ge (by omega) (by omega)) ?_
    refine te_ycopyRow q (q + 1) (nI_pred q) rfl (by omega) (by omega) (by omega) ?_
    have H := ih q (by omega) (by omega)
    rw [← te_dnS ce (by omega)] at H
    exact nm_r (pk_m1 q) H
theorem te_yrowsDown {x y : Int32} (f t : Nat) (hx : x = nI f) (hy : y = nI t) (hft : f ≤ t) (ht : t < 6) (h : post (r, cc, pn, tp, bo, ins, wr, ot, wt, sr, sc, sp, ar, ac, ao, ab, kc, st, bg, mq, mn, (te_mo ce (12 * f) (12 * (t + 1)) 12), sh, aq, kp, nq)) : wpY_rowsDown post (r, cc, pn, tp, bo, ins, wr, ot, wt, sr, sc, sp, ar, ac, ao, ab, kc, st, bg, mq, mn, ce, sh, aq, kp, nq) x y := by
  subst hx hy
  have H := te_yrd_L ht h (t - f) t (by omega) (Nat.le_refl _)
  rw [te_dn0] at H
  exact Exists.intro _ H
theorem te_yscrollUp {T B K : Nat} (hTB : T ≤ B) (hB : B < 6) (hK : K ≤ 8) (hc : te_rg ce) (h : post (r, cc, pn, (nI T), (nI B), ins, wr, ot, wt, sr, sc, sp, ar, ac, ao, ab, (nI (te_sn (te_q ot T) T B 1 K ce kp).1), st, bg, mq, mn, ((te_sn (te_q ot T) T B 1 K ce kp).2.1), sh, aq, ((te_sn (te_q ot T) T B 1 K ce kp).2.2), nq)) : wpY_scrollUp post (r, cc, pn, (nI T), (nI B), ins, wr, ot, wt, sr, sc, sp, ar, ac, ao, ab, (nI K), st, bg, mq, mn, ce, sh, aq, kp, nq) := by
  unfold wpY_scrollUp
  have Q : ∀ (K' : Nat) (k' : Nat → Int32), post (r, cc, pn, (nI T), (nI B), ins, wr, ot, wt, sr, sc, sp, ar, ac, ao, ab, (nI K'), st, bg, mq, mn, (te_mb ce (12 * T) (12 * (B + 1)) 12), sh, aq, k', nq) → wY_scrollUp_19 post r cc pn (nI T) (nI B) ins wr ot wt sr sc sp ar ac ao ab (nI K') st bg mq mn ce sh aq k' nq := by
    intro K' k' h'
    unfold wY_scrollUp_19
    exact te_yrowsUp T B rfl rfl hTB hB h'
  by_cases h0 : ot = 0
  · by_cases hT : T = 0
    · rw [te_qT h0 hT] at h
      refine br_t h0 (br_t (by rw [hT, nI_0]) ?_)
      exact te_ykeep hK hc (Q (te_k8 K) (te_keep kp ce) h)
    · rw [te_qN hT] at h
      exact br_t h0 (br_f (nI_ne0 (by omega) (by omega)) (Q K kp h))
  · rw [te_qO h0] at h
    exact br_f h0 (Q K kp h)
theorem te_ylineFeed {T B R K : Nat} (hTB : T ≤ B) (hB : B < 6) (hR : R < 6) (hK : K ≤ 8) (hc : te_rg ce) (h : post ((nI (te_lfR R B)), cc, pn, (nI T), (nI B), ins, wr, ot, wt, sr, sc, sp, ar, ac, ao, ab, (nI (te_lfW (te_q ot T) T B R K ce kp).1), st, bg, mq, mn, ((te_lfW (te_q ot T) T B R K ce kp).2.1), sh, aq, ((te_lfW (te_q ot T) T B R K ce kp).2.2), nq)) : wpY_lineFeed post ((nI R), cc, pn, (nI T), (nI B), ins, wr, ot, wt, sr, sc, sp, ar, ac, ao, ab, (nI K), st, bg, mq, mn, ce, sh, aq, kp, nq) := by
  unfold wpY_lineFeed
  by_cases h1 : R = B
  · have e1 : te_lfR R B = R := if_pos h1
    have e2 : te_lfW (te_q ot T) T B R K ce kp = te_sn (te_q ot T) T B 1 K ce kp := if_pos h1
    rw [e1, e2] at h
    refine br_t (congrArg nI h1) ?_
    exact te_yscrollUp hTB hB hK hc h
  · have e2 : te_lfW (te_q ot T) T B R K ce kp = (K, ce, kp) := if_neg h1
    rw [e2] at h
    refine br_f (te_ne h1 (by omega) (by omega)) ?_
    by_cases h5 : R < 5
    · have e1 : te_lfR R B = R + 1 := by unfold te_lfR; rw [if_neg h1, if_pos h5]
      rw [e1] at h
      exact br_f (nI_ge (b := 5) h5 (by omega)) (nm_r (nI_1 R) h)
    · have e1 : te_lfR R B = R := by unfold te_lfR; rw [if_neg h1, if_neg h5]
      rw [e1] at h
      exact br_t (nI_le (a := 5) (by omega) (by omega)) h
end
end
section
/-! the reference: cells put in and taken out, the exchange, rows moved, the pen, what is shown -/
section
variable {post : SY → Prop} {r cc pn tp bo ins wr ot wt sr sc sp ar ac ao ab kc st bg mq mn : Int32} {ce sh aq kp nq : Nat → Int32}
theorem te_yless {pst : Int32 → Prop} {x y : Int32} (a b : Nat) (hx : x = nI a) (hy : y = nI b) (ha : a < 2 ^ 30) (hb : b < 2 ^ 30) (h : pst (nI (te_min a b))) : wpY_least pst (r, cc, pn, tp, bo, ins, wr, ot, wt, sr, sc, sp, ar, ac, ao, ab, kc, st, bg, mq, mn, ce, sh, aq, kp, nq) x y := by
  subst hx hy
  unfold wpY_least
  by_cases hc : b ≤ a
  · rw [te_minA hc] at h
    exact br_t (nI_le hc (by omega)) h
  · rw [te_minB hc] at h
    exact br_f (nI_ge (by omega) (by omega)) h
/-- one cell put in: p is where the loop stands -/
theorem te_ypi_L {J : Int32 → (Nat → Int32) → (Nat → Int32) → (Nat → Int32) → (Nat → Int32) → (Nat → Int32) → Prop} {x1 : Int32} {R C i : Nat} (hR : R < 6) (hC : C < 12) (h : J (nI (i + 1)) (te_mo ce (12 * R + C) (12 * R + 12) 1) sh aq kp nq) : ∀ g p : Nat, p = C + g → p < 12 → wY_putIn_16 post J x1 (nI i) (nI R) (nI C) pn tp bo ins wr ot wt sr sc sp ar ac ao ab kc st bg mq mn (g + 1) (nI p) (te_ri ce (12 * R + p) (12 * R + 12)) sh aq kp nq := by
  intro g
  induction g with
  | zero =>
    intro p hp hq
    obtain rfl : p = C := by omega
    refine br_t (nI_le (Nat.le_refl _) (by omega)) ⟨?_, nm_r ?_ (nm_r (nI_1 i) h)⟩
    · rw [te_iy]
      exact vp_in_nI (by omega) (by omega)
    · rw [te_iy, nI_clamp (by omega)]
      exact te_riE ce (by omega)
  | succ g ih =>
    intro p hp hq
    obtain ⟨q, rfl⟩ : ∃ q, p = q + 1 := ⟨p - 1, by omega⟩
    have e1 : 12 * nI R + nI (q + 1) - 1 = nI (12 * R + q) := by rw [te_iy]; exact nI_pred (12 * R + q)
    refine br_f (nI_ge (by omega) (by omega)) ⟨?_, ?_, nm_r ?_ (nm_r (pk_m1 q) (ih q (by omega) (by omega)))⟩
    · rw [e1]
      exact vp_in_nI (by omega) (by omega)
    · rw [te_iy]
      exact vp_in_nI (by omega) (by omega)
    · rw [e1, te_iy, nI_clamp (by omega), nI_clamp (by omega)]
      exact te_riS ce (p := 12 * R + q) (by omega)
theorem te_ypo_L {R C n : Nat} (hR : R < 6) (hC : C < 12) (hn : n < 1000) (h : post ((nI R), (nI C), pn, tp, bo, ins, wr, ot, wt, sr, sc, sp, ar, ac, ao, ab, kc, st, bg, mq, mn, (te_mo ce (12 * R + C) (12 * R + 12) (te_min n 12)), sh, aq, kp, nq)) : ∀ g i : Nat, i + g = te_min n 12 → wY_putIn_2 post (nI n) (nI R) (nI C) pn tp bo ins wr ot wt sr sc sp ar ac ao ab kc st bg mq mn (g + 1) (nI i) (te_mo ce (12 * R + C) (12 * R + 12) i) sh aq kp nq := by
  intro g
  induction g with
  | zero =>
    intro i hi
    obtain rfl : i = te_min n 12 := by omega
    by_cases h12 : n ≤ te_min n 12
    · have := te_minLe n 12
      exact br_t (nI_le h12 (by omega)) h
    · have e : te_min n 12 = 12 := by
        by_cases z : 12 ≤ n
        · exact te_minA z
        · rw [te_minB z] at h12; omega
      refine br_f (nI_ge (by omega) (by omega)) (br_t ?_ h)
      rw [e]
      exact nI_le (a := 12) (b := 12) (by omega) (by omega)
  | succ g ih =>
    intro i hi
    have hm : te_min n 12 ≤ 12 ∧ te_min n 12 ≤ n := by unfold te_min; split <;> omega
    refine br_f (nI_ge (by omega) (by omega)) (br_f (nI_ge (b := 12) (by omega) (by omega)) ?_)
    have H := ih (i + 1) (by omega)
    rw [← te_momo ce (12 * R + C) (12 * R + 12) i 1] at H
    have H2 := te_ypi_L (post := post) (pn := pn) (tp := tp) (bo := bo) (ins := ins) (wr := wr) (ot := ot) (wt := wt) (sr := sr) (sc := sc) (sp := sp) (ar := ar) (ac := ac) (ao := ao) (ab := ab) (kc := kc) (st := st) (bg := bg) (mq := mq) (mn := mn) (J := wY_putIn_2 post (nI n) (nI R) (nI C) pn tp bo ins wr ot wt sr sc sp ar ac ao ab kc st bg mq mn (g + 1)) (x1 := nI n) hR hC H (11 - C) 11 (by omega) (by omega)
    rw [te_ri0 _ (by omega)] at H2
    exact Exists.intro _ H2
theorem te_yputIn {R C : Nat} {x : Int32} (n : Nat) (hx : x = nI n) (hR : R < 6) (hC : C < 12) (hn : n < 1000) (h : post ((nI R), (nI C), pn, tp, bo, ins, wr, ot, wt, sr, sc, sp, ar, ac, ao, ab, kc, st, bg, mq, mn, (te_mo ce (12 * R + C) (12 * R + 12) n), sh, aq, kp, nq)) : wpY_putIn post ((nI R), (nI C), pn, tp, bo, ins, wr, ot, wt, sr, sc, sp, ar, ac, ao, ab, kc, st, bg, mq, mn, ce, sh, aq, kp, nq) x := by
  subst hx
  have e : te_mo ce (12 * R + C) (12 * R + 12) (te_min n 12) = te_mo ce (12 * R + C) (12 * R + 12) n := by
    by_cases z : 12 ≤ n
    · rw [te_minA z]; exact te_moX ce (by omega) (by omega)
    · rw [te_minB z]
  rw [← e] at h
  have H := te_ypo_L hR hC hn h (te_min n 12) 0 (by omega)
  rw [te_mo0] at H
  exact Exists.intro _ H
theorem te_yti_L {J : Int32 → (Nat → Int32) → (Nat → Int32) → (Nat → Int32) → (Nat → Int32) → (Nat → Int32) → Prop} {x1 : Int32} {R C i : Nat} (hR : R < 6) (h : J (nI (i + 1)) (te_mb ce (12 * R + C) (12 * R + 12) 1) sh aq kp nq) : ∀ g p : Nat, p + g = 11 → C ≤ p → wY_takeOut_18 post J x1 (nI i) (nI R) (nI C) pn tp bo ins wr ot wt sr sc sp ar ac ao ab kc st bg mq mn (g + 1) (nI p) (te_le ce (12 * R + C) (12 * R + p)) sh aq kp nq := by
  intro g
  induction g with
  | zero =>
    intro p hp hq
    obtain rfl : p = 11 := by omega
    refine br_t (nI_le (a := 11) (b := 11) (by omega) (by omega)) ⟨?_, nm_r ?_ (nm_r (nI_1 i) h)⟩
    · rw [te_iy11]
      exact vp_in_nI (by omega) (by omega)
    · rw [te_iy11, nI_clamp (by omega)]
      exact te_leE ce (by omega)
  | succ g ih =>
    intro p hp hq
    have e1 : 12 * nI R + nI p + 1 = nI (12 * R + p + 1) := by rw [te_iy, nI_1]
    refine br_f (nI_ge (b := 11) (by omega) (by omega)) ⟨?_, ?_, nm_r ?_ (nm_r (nI_1 p) (ih (p + 1) (by omega) (by omega)))⟩
    · rw [e1]
      exact vp_in_nI (by omega) (by omega)
    · rw [te_iy]
      exact vp_in_nI (by omega) (by omega)
    · rw [e1, te_iy, nI_clamp (by omega), nI_clamp (by omega)]
      exact te_leS ce (by omega)
theorem te_yto_L {R C n : Nat} (hR : R < 6) (hC : C < 12) (hn : n < 1000) (h : post ((nI R), (nI C), pn, tp, bo, ins, wr, ot, wt, sr, sc, sp, ar, ac, ao, ab, kc, st, bg, mq, mn, (te_mb ce (12 * R + C) (12 * R + 12) (te_min n 12)), sh, aq, kp, nq)) : ∀ g i : Nat, i + g = te_min n 12 → wY_takeOut_2 post (nI n) (nI R) (nI C) pn tp bo ins wr ot wt sr sc sp ar ac ao ab kc st bg mq mn (g + 1) (nI i) (te_mb ce (12 * R + C) (12 * R + 12) i) sh aq kp nq := by
  intro g
  induction g with
  | zero =>
    intro i hi
    obtain rfl : i = te_min n 12 := by omega
    by_cases h12 : n ≤ te_min n 12
    · have := te_minLe n 12
      exact br_t (nI_le h12 (by omega)) h
    · have e : te_min n 12 = 12 := by
        by_cases z : 12 ≤ n
        · exact te_minA z
        · rw [te_minB z] at h12; omega
      refine br_f (nI_ge (by omega) (by omega)) (br_t ?_ h)
      rw [e]
      exact nI_le (a := 12) (b := 12) (by omega) (by omega)
  | succ g ih =>
    intro i hi
    have hm : te_min n 12 ≤ 12 ∧ te_min n 12 ≤ n := by unfold te_min; split <;> omega
    refine br_f (nI_ge (by omega) (by omega)) (br_f (nI_ge (b := 12) (by omega) (by omega)) ?_)
    have H := ih (i + 1) (by omega)
    rw [← te_mbmb ce (12 * R + C) (12 * R + 12) i 1] at H
    have H2 := te_yti_L (post := post) (pn := pn) (tp := tp) (bo := bo) (ins := ins) (wr := wr) (ot := ot) (wt := wt) (sr := sr) (sc := sc) (sp := sp) (ar := ar) (ac := ac) (ao := ao) (ab := ab) (kc := kc) (st := st) (bg := bg) (mq := mq) (mn := mn) (J := wY_takeOut_2 post (nI n) (nI R) (nI C) pn tp bo ins wr ot wt sr sc sp ar ac ao ab kc st bg mq mn (g + 1)) (x1 := nI n) hR H (11 - C) C (by omega) (Nat.le_refl _)
    rw [te_le0] at H2
    exact Exists.intro _ H2
theorem te_ytakeOut {R C : Nat} {x : Int32} (n : Nat) (hx : x = nI n) (hR : R < 6) (hC : C < 12) (hn : n < 1000) (h : post ((nI R), (nI C), pn, tp, bo, ins, wr, ot, wt, sr, sc, sp, ar, ac, ao, ab, kc, st, bg, mq, mn, (te_mb ce (12 * R + C) (12 * R + 12) n), sh, aq, kp, nq)) : wpY_takeOut post ((nI R), (nI C), pn, tp, bo, ins, wr, ot, wt, sr, sc, sp, ar, ac, ao, ab, kc, st, bg, mq, mn, ce, sh, aq, kp, nq) x := by
  subst hx
  have e : te_mb ce (12 * R + C) (12 * R + 12) (te_min n 12) = te_mb ce (12 * R + C) (12 * R + 12) n := by
    by_cases z : 12 ≤ n
    · rw [te_minA z]; exact te_mbX ce (by omega) (by omega)
    · rw [te_minB z]
  rw [← e] at h
  have H := te_yto_L hR hC hn h (te_min n 12) 0 (by omega)
  rw [te_mb0] at H
  exact Exists.intro _ H
/-- OTHER switched on -/
theorem te_yx1_L (h : post (0, 0, pn, 0, 5, ins, wr, ot, wt, sr, sc, sp, r, cc, tp, bo, kc, st, bg, mq, mn, (te_cl ce 0 72), sh, (te_cp ce aq 72), kp, nq)) : ∀ g p : Nat, p + g = 72 → wY_exchange_7 post 1 r cc pn tp bo ins wr ot wt sr sc sp ar ac ao ab kc st bg mq mn (g + 1) (nI p) (te_cl ce 0 p) sh (te_cp ce aq p) kp nq := by
  intro g
  induction g with
  | zero =>
    intro p hp
    obtain rfl : p = 72 := by omega
    refine br_t (nI_le (a := 72) (b := 72) (by omega) (by omega)) (br_f te_10 ?_)
    exact br_f te_10 (br_f te_10 (br_f te_10 (br_f te_10 h)))
  | succ g ih =>
    intro p hp
    refine br_f (nI_ge (b := 72) (by omega) (by omega)) (br_f te_10 ?_)
    refine ⟨vp_in_nI (by omega) (by omega), vp_in_nI (by omega) (by omega), nm_r ?_ ⟨vp_in_nI (by omega) (by omega), nm_r ?_ (nm_r (nI_1 p) (ih (p + 1) (by omega)))⟩⟩
    · rw [nI_clamp (by omega), te_clP]
      exact te_cpS ce aq p
    · rw [nI_clamp (by omega)]
      exact te_clS ce (Nat.zero_le p)
theorem te_yexchange1 (h : post (0, 0, pn, 0, 5, ins, wr, 1, wt, sr, sc, sp, r, cc, tp, bo, kc, st, bg, mq, mn, (te_cl ce 0 72), sh, (te_cp ce aq 72), kp, nq)) : wpY_exchange post (r, cc, pn, tp, bo, ins, wr, ot, wt, sr, sc, sp, ar, ac, ao, ab, kc, st, bg, mq, mn, ce, sh, aq, kp, nq) 1 := by
  unfold wpY_exchange
  refine ⟨te_nb te_1, te_fb te_1, ?_⟩
  have H := te_yx1_L (ar := ar) (ac := ac) (ao := ao) (ab := ab) h 72 0 rfl
  rw [te_cl0 ce (Nat.le_refl 0), te_cp0] at H
  exact Exists.intro _ H
/-- OTHER switched off -/
theorem te_yx0_L (h : post (ar, ac, pn, ao, ab, ins, wr, ot, wt, sr, sc, sp, ar, ac, ao, ab, kc, st, bg, mq, mn, (te_cp aq ce 72), sh, (te_cp ce aq 72), kp, nq)) : ∀ g p : Nat, p + g = 72 → wY_exchange_7 post 0 r cc pn tp bo ins wr ot wt sr sc sp ar ac ao ab kc st bg mq mn (g + 1) (nI p) (te_cp aq ce p) sh (te_cp ce aq p) kp nq := by
  intro g
  induction g with
  | zero =>
    intro p hp
    obtain rfl : p = 72 := by omega
    refine br_t (nI_le (a := 72) (b := 72) (by omega) (by omega)) (br_t rfl ?_)
    exact br_t rfl (br_t rfl (br_t rfl (br_t rfl h)))
  | succ g ih =>
    intro p hp
    refine br_f (nI_ge (b := 72) (by omega) (by omega)) (br_t rfl ⟨vp_in_nI (by omega) (by omega), ?_⟩)
    refine ⟨vp_in_nI (by omega) (by omega), vp_in_nI (by omega) (by omega), nm_r ?_ ⟨vp_in_nI (by omega) (by omega), nm_r ?_ (nm_r (nI_1 p) (ih (p + 1) (by omega)))⟩⟩
    · rw [nI_clamp (by omega), te_cpJ]
      exact te_cpS ce aq p
    · rw [nI_clamp (by omega), te_cpJ]
      exact te_cpS aq ce p
theorem te_yexchange0 (h : post (ar, ac, pn, ao, ab, ins, wr, 0, wt, sr, sc, sp, ar, ac, ao, ab, kc, st, bg, mq, mn, (te_cp aq ce 72), sh, (te_cp ce aq 72), kp, nq)) : wpY_exchange post (r, cc, pn, tp, bo, ins, wr, ot, wt, sr, sc, sp, ar, ac, ao, ab, kc, st, bg, mq, mn, ce, sh, aq, kp, nq) 0 := by
  unfold wpY_exchange
  refine ⟨te_nb te_0, te_fb te_0, ?_⟩
  have H := te_yx0_L (r := r) (cc := cc) (tp := tp) (bo := bo) h 72 0 rfl
  rw [te_cp0, te_cp0] at H
  exact Exists.intro _ H
/-- S: n times up -/
theorem te_ymS_L {x3 x4 : Int32} {T B n : Nat} (hb3 : te_b01 x3) (hTB : T ≤ B) (hB : B < 6) (hn : n < 1000) : ∀ (g i K : Nat) (c k : Nat → Int32), i + g = n → K ≤ 8 → te_rg c → post (r, cc, pn, (nI T), (nI B), ins, wr, ot, wt, sr, sc, sp, ar, ac, ao, ab, (nI (te_sn (te_q ot T) T B g K c k).1), st, bg, mq, mn, ((te_sn (te_q ot T) T B g K c k).2.1), sh, aq, ((te_sn (te_q ot T) T B g K c k).2.2), nq) → wY_moveRows_37 post 83 (nI n) x3 x4 (g + 1) (nI i) r cc pn (nI T) (nI B) ins wr ot wt sr sc sp ar ac ao ab (nI K) st bg mq mn c sh aq k nq := by
  intro g
  induction g with
  | zero =>
    intro i K c k hi hK hc h
    obtain rfl : i = n := by omega
    refine br_t (nI_le (Nat.le_refl _) (by omega)) ?_
    exact br_c (fun _ => h) (fun _ => br_f (by decide) (br_f (by decide) h))
  | succ g ih =>
    intro i K c k hi hK hc h
    refine br_f (nI_ge (by omega) (by omega)) (br_t rfl ?_)
    refine te_yscrollUp hTB hB hK hc ?_
    refine nm_r (nI_1 i) (ih (i + 1) (te_sn (te_q ot T) T B 1 K c k).1 (te_sn (te_q ot T) T B 1 K c k).2.1 (te_sn (te_q ot T) T B 1 K c k).2.2 (by omega) ?_ ?_ h)
    · exact (te_snOk 1 K c k hK hc).1
    · exact (te_snOk 1 K c k hK hc).2
/-- T: n times down -/
theorem te_ymT_L {x3 x4 : Int32} {T B n : Nat} (hTB : T ≤ B) (hB : B < 6) (hn : n < 1000) (h : post (r, cc, pn, (nI T), (nI B), ins, wr, ot, wt, sr, sc, sp, ar, ac, ao, ab, kc, st, bg, mq, mn, (te_mo ce (12 * T) (12 * (B + 1)) (12 * n)), sh, aq, kp, nq)) : ∀ g i : Nat, i + g = n → wY_moveRows_37 post 84 (nI n) x3 x4 (g + 1) (nI i) r cc pn (nI T) (nI B) ins wr ot wt sr sc sp ar ac ao ab kc st bg mq mn (te_mo ce (12 * T) (12 * (B + 1)) (12 * i)) sh aq kp nq := by
  intro g
  induction g with
  | zero =>
    intro i hi
    obtain rfl : i = n := by omega
    refine br_t (nI_le (Nat.le_refl _) (by omega)) ?_
    exact br_c (fun _ => h) (fun _ => br_f (by decide) (br_f (by decide) h))
  | succ g ih =>
    intro i hi
    refine br_f (nI_ge (by omega) (by omega)) (br_f (by decide) (br_t rfl ?_))
    refine te_yrowsDown T B rfl rfl hTB hB ?_
    rw [te_momo, show 12 * i + 12 = 12 * (i + 1) from by omega]
    exact nm_r (nI_1 i) (ih (i + 1) (by omega))
/-- L in the region -/
theorem te_ymL_L {R B n : Nat} (hRB : R ≤ B) (hB : B < 6) (hn : n < 1000) (h : post (r, 0, pn, tp, (nI B), ins, wr, ot, wt, sr, sc, sp, ar, ac, ao, ab, kc, st, bg, mq, mn, (te_mo ce (12 * R) (12 * (B + 1)) (12 * n)), sh, aq, kp, nq)) : ∀ g i : Nat, i + g = n → wY_moveRows_37 post 76 (nI n) 1 (nI R) (g + 1) (nI i) r cc pn tp (nI B) ins wr ot wt sr sc sp ar ac ao ab kc st bg mq mn (te_mo ce (12 * R) (12 * (B + 1)) (12 * i)) sh aq kp nq := by
  intro g
  induction g with
  | zero =>
    intro i hi
    obtain rfl : i = n := by omega
    exact br_t (nI_le (Nat.le_refl _) (by omega)) (br_f te_10 (br_t rfl h))
  | succ g ih =>
    intro i hi
    refine br_f (nI_ge (by omega) (by omega)) (br_f (by decide) (br_f (by decide) (br_f te_10 (br_t rfl ?_))))
    refine te_yrowsDown R B rfl rfl hRB hB ?_
    rw [te_momo, show 12 * i + 12 = 12 * (i + 1) from by omega]
    exact nm_r (nI_1 i) (ih (i + 1) (by omega))
/-- M in the region -/
theorem te_ymM_L {R B n : Nat} (hRB : R ≤ B) (hB : B < 6) (hn : n < 1000) (h : post (r, 0, pn, tp, (nI B), ins, wr, ot, wt, sr, sc, sp, ar, ac, ao, ab, kc, st, bg, mq, mn, (te_mb ce (12 * R) (12 * (B + 1)) (12 * n)), sh, aq, kp, nq)) : ∀ g i : Nat, i + g = n → wY_moveRows_37 post 77 (nI n) 1 (nI R) (g + 1) (nI i) r cc pn tp (nI B) ins wr ot wt sr sc sp ar ac ao ab kc st bg mq mn (te_mb ce (12 * R) (12 * (B + 1)) (12 * i)) sh aq kp nq := by
  intro g
  induction g with
  | zero =>
    intro i hi
    obtain rfl : i = n := by omega
    exact br_t (nI_le (Nat.le_refl _) (by omega)) (br_f te_10 (br_f (by decide) (br_t rfl h)))
  | succ g ih =>
    intro i hi
    refine br_f (nI_ge (by omega) (by omega)) (br_f (by decide) (br_f (by decide) (br_f te_10 (br_f (by decide) ?_))))
    unfold wY_moveRows_100
    refine br_f te_10 ?_
    refine te_yrowsUp R B rfl rfl hRB hB ?_
    rw [te_mbmb, show 12 * i + 12 = 12 * (i + 1) from by omega]
    exact nm_r (nI_1 i) (ih (i + 1) (by omega))
/-- L and M outside of the region -/
theorem te_ymO_L {x1 x4 : Int32} {n : Nat} (h83 : ¬ x1 = 83) (h84 : ¬ x1 = 84) (hn : n < 1000) (h : post (r, cc, pn, tp, bo, ins, wr, ot, wt, sr, sc, sp, ar, ac, ao, ab, kc, st, bg, mq, mn, ce, sh, aq, kp, nq)) : ∀ g i : Nat, i + g = n → wY_moveRows_37 post x1 (nI n) 0 x4 (g + 1) (nI i) r cc pn tp bo ins wr ot wt sr sc sp ar ac ao ab kc st bg mq mn ce sh aq kp nq := by
  intro g
  induction g with
  | zero =>
    intro i hi
    obtain rfl : i = n := by omega
    exact br_t (nI_le (Nat.le_refl _) (by omega)) (br_t rfl h)
  | succ g ih =>
    intro i hi
    refine br_f (nI_ge (by omega) (by omega)) (br_f h83 (br_f h84 (br_t rfl ?_)))
    unfold wY_moveRows_100
    exact br_t rfl (nm_r (nI_1 i) (ih (i + 1) (by omega)))
/-- one number of m -/
theorem te_ypaint {P v : Nat} (hP : P < 8) (hv : v ≤ 99) (h : post (r, cc, (nI (te_pv P v)), tp, bo, ins, wr, ot, wt, sr, sc, sp, ar, ac, ao, ab, kc, st, bg, mq, mn, ce, sh, aq, kp, nq)) : wpY_paint post (r, cc, (nI P), tp, bo, ins, wr, ot, wt, sr, sc, sp, ar, ac, ao, ab, kc, st, bg, mq, mn, ce, sh, aq, kp, nq) (nI v) := by
  unfold wpY_paint
  obtain ⟨t1, t2, t4, -, -, -, t22, t24, t27⟩ := te_pvT ⟨P, hP⟩
  unfold te_pv at h
  by_cases h0 : v = 0
  · rw [if_pos h0] at h
    exact br_t (by rw [h0, nI_0]) h
  rw [if_neg h0] at h
  refine br_f (te_ne (b := 0) h0 (by omega) (by omega)) ?_
  by_cases h1 : v = 1
  · rw [if_pos h1] at h
    exact br_t (congrArg nI h1) (nm_r t1 h)
  rw [if_neg h1] at h
  refine br_f (te_ne (b := 1) h1 (by omega) (by omega)) ?_
  by_cases h4 : v = 4
  · rw [if_pos h4] at h
    exact br_t (congrArg nI h4) (nm_r t2 h)
  rw [if_neg h4] at h
  refine br_f (te_ne (b := 4) h4 (by omega) (by omega)) ?_
  by_cases h7 : v = 7
  · rw [if_pos h7] at h
    exact br_t (congrArg nI h7) (nm_r t4 h)
  rw [if_neg h7] at h
  refine br_f (te_ne (b := 7) h7 (by omega) (by omega)) ?_
  by_cases h22 : v = 22
  · rw [if_pos h22] at h
    exact br_t (congrArg nI h22) (nm_r t22 h)
  rw [if_neg h22] at h
  refine br_f (te_ne (b := 22) h22 (by omega) (by omega)) ?_
  by_cases h24 : v = 24
  · rw [if_pos h24] at h
    exact br_t (congrArg nI h24) (nm_r t24 h)
  rw [if_neg h24] at h
  refine br_f (te_ne (b := 24) h24 (by omega) (by omega)) ?_
  by_cases h27 : v = 27
  · rw [if_pos h27] at h
    exact br_t (congrArg nI h27) (nm_r t27 h)
  rw [if_neg h27] at h
  exact br_f (te_ne (b := 27) h27 (by omega) (by omega)) h
theorem te_ylp_L {E : Nat} {v : Nat → Nat} (hE : E ≤ 4) (hv : ∀ j, j < 4 → v j ≤ 99 ∧ nq j = nI (v j)) : ∀ g i P : Nat, i + g = te_min (E + 1) 4 → P < 8 → post (r, cc, (nI (te_pp v g i P)), tp, bo, ins, wr, ot, wt, sr, sc, sp, ar, ac, ao, ab, kc, st, bg, mq, (nI (E + 1)), ce, sh, aq, kp, nq) → wY_last_130 post (g + 1) (nI i) r cc (nI P) tp bo ins wr ot wt sr sc sp ar ac ao ab kc st bg mq (nI (E + 1)) ce sh aq kp nq := by
  intro g
  induction g with
  | zero =>
    intro i P hi hP h
    obtain rfl : i = te_min (E + 1) 4 := by omega
    by_cases h4 : 4 ≤ E + 1
    · rw [te_minA h4]
      refine br_c (fun _ => h) (fun _ => br_t (nI_le (a := 4) (b := 4) (by omega) (by omega)) h)
    · rw [te_minB h4]
      exact br_t (nI_le (Nat.le_refl _) (by omega)) h
  | succ g ih =>
    intro i P hi hP h
    have hm : te_min (E + 1) 4 ≤ 4 ∧ te_min (E + 1) 4 ≤ E + 1 := by unfold te_min; split <;> omega
    obtain ⟨hv9, ev⟩ := hv i (by omega)
    refine br_f (nI_ge (by omega) (by omega)) (br_f (nI_ge (b := 4) (by omega) (by omega)) ⟨vp_in_nI (by omega) (by omega), ?_⟩)
    rw [nI_clamp (by omega), ev]
    refine te_ypaint hP hv9 ?_
    exact nm_r (nI_1 i) (ih (i + 1) (te_pv P (v i)) (by omega) (te_pv8 hP) h)
theorem te_yst_L {pst : Int32 → Prop} (h : pst (nI (te_ct ce sh 72))) : ∀ g p : Nat, p + g = 72 → wY_stale_4 pst r cc pn tp bo ins wr ot wt sr sc sp ar ac ao ab kc st bg mq mn ce sh aq kp nq (g + 1) (nI (te_ct ce sh p)) (nI p) := by
  intro g
  induction g with
  | zero =>
    intro p hp
    obtain rfl : p = 72 := by omega
    exact br_t (nI_le (a := 72) (b := 72) (by omega) (by omega)) h
  | succ g ih =>
    intro p hp
    have H := ih (p + 1) (by omega)
    refine br_f (nI_ge (b := 72) (by omega) (by omega)) ⟨vp_in_nI (by omega) (by omega), vp_in_nI (by omega) (by omega), ?_⟩
    rw [nI_clamp (by omega)]
    by_cases hc : ce p = sh p
    · have e : te_ct ce sh (p + 1) = te_ct ce sh p := by
        simp only [te_ct, if_pos hc, Nat.add_zero]
      rw [e] at H
      exact br_t hc (nm_r (nI_1 p) H)
    · have e : te_ct ce sh (p + 1) = te_ct ce sh p + 1 := by
        simp only [te_ct, if_neg hc]
      rw [e] at H
      exact br_f hc (nm_r (nI_1 _) (nm_r (nI_1 p) H))
theorem te_ystale {pst : Int32 → Prop} (h : pst (nI (te_ct ce sh 72))) : wpY_stale pst (r, cc, pn, tp, bo, ins, wr, ot, wt, sr, sc, sp, ar, ac, ao, ab, kc, st, bg, mq, mn, ce, sh, aq, kp, nq) := Exists.intro _ (te_yst_L h 72 0 rfl)
theorem te_yrf_L {pst : Int32 → SY → Prop} {x1 : Int32} (h : pst x1 (r, cc, pn, tp, bo, ins, wr, ot, wt, sr, sc, sp, ar, ac, ao, ab, kc, st, bg, mq, mn, ce, (te_cp ce sh 72), aq, kp, nq)) : ∀ g p : Nat, p + g = 72 → wY_refresh_7 pst x1 r cc pn tp bo ins wr ot wt sr sc sp ar ac ao ab kc st bg mq mn (g + 1) (nI p) ce (te_cp ce sh p) aq kp nq := by
  intro g
  induction g with
  | zero =>
    intro p hp
    obtain rfl : p = 72 := by omega
    exact br_t (nI_le (a := 72) (b := 72) (by omega) (by omega)) h
  | succ g ih =>
    intro p hp
    refine br_f (nI_ge (b := 72) (by omega) (by omega)) ⟨vp_in_nI (by omega) (by omega), vp_in_nI (by omega) (by omega), nm_r ?_ (nm_r (nI_1 p) (ih (p + 1) (by omega)))⟩
    rw [nI_clamp (by omega)]
    exact te_cpS ce sh p
theorem te_yrefresh {pst : Int32 → SY → Prop} (h : pst (nI (te_ct ce sh 72)) (r, cc, pn, tp, bo, ins, wr, ot, wt, sr, sc, sp, ar, ac, ao, ab, kc, st, bg, mq, mn, ce, (te_cp ce sh 72), aq, kp, nq)) : wpY_refresh pst (r, cc, pn, tp, bo, ins, wr, ot, wt, sr, sc, sp, ar, ac, ao, ab, kc, st, bg, mq, mn, ce, sh, aq, kp, nq) := by
  unfold wpY_refresh
  refine te_ystale ?_
  have H := te_yrf_L h 72 0 rfl
  rw [te_cp0] at H
  exact Exists.intro _ H
end
end
section
/-! the relation, and the calls that only answer -/
/-- bounds of the numbers -/
abbrev te_A (R C P T B : Nat) (ins wr ot wt : Int32) (SR SC SP AR AC AO AB K : Nat) : Prop :=
  R < 6 ∧ C < 12 ∧ P < 8 ∧ T ≤ B ∧ B < 6 ∧ te_b01 ins ∧ te_b01 wr ∧ te_b01 ot ∧ te_b01 wt ∧ SR < 6 ∧ SC < 12 ∧ SP < 8 ∧ AR < 6 ∧ AC < 12 ∧ AO ≤ AB ∧ AB < 6 ∧ K ≤ 8
/-- the cells, and those put aside -/
abbrev te_F (ot : Int32) (ce ad aq : Nat → Int32) : Prop :=
  te_rg ce ∧ te_rg ad ∧ (∀ j, 72 ≤ j → ad j = aq j) ∧ (ot = 0 ∨ aq = ad)
/-- inside of a sequence, from its 91 on -/
abbrev te_H2 (ma mk se bg mq mn : Int32) (nu nq : Nat → Int32) : Prop :=
  ((ma = 0 ∧ bg = 1) ∨ (ma = 1 ∧ bg = 0)) ∧ te_b01 mk ∧ mq = mk ∧ nq = nu ∧ (∃ E : Nat, E ≤ 4 ∧ se = nI E ∧ mn = nI (E + 1)) ∧ ∀ j, j < 4 → ∃ m : Nat, m ≤ 99 ∧ nu j = nI m
abbrev te_H (S : Nat) (ma mk se bg mq mn : Int32) (nu nq : Nat → Int32) : Prop :=
  (∀ j, 4 ≤ j → nu j = nq j) ∧ (S = 0 ∨ S = 1 ∨ (S = 2 ∧ te_H2 ma mk se bg mq mn nu nq))
def te_R (u : SX) (v : SY) : Prop :=
  ∃ (R C P T B : Nat) (ins wr ot wt : Int32) (SR SC SP AR AC AO AB K S : Nat) (ma mk se bg mq mn : Int32) (ce ad aq sh kp nu nq : Nat → Int32),
    u = ((nI R), (nI C), (nI P), (nI T), (nI B), ins, wr, ot, wt, (nI SR), (nI SC), (nI SP), (nI AR), (nI AC), (nI AO), (nI AB), (nI K), (nI S), ma, mk, se, ce, ad, sh, kp, nu) ∧ v = ((nI R), (nI C), (nI P), (nI T), (nI B), ins, wr, ot, wt, (nI SR), (nI SC), (nI SP), (nI AR), (nI AC), (nI AO), (nI AB), (nI K), (nI S), bg, mq, mn, ce, sh, aq, kp, nq) ∧ te_A R C P T B ins wr ot wt SR SC SP AR AC AO AB K ∧ te_F ot ce ad aq ∧ te_H S ma mk se bg mq mn nu nq
theorem te_mk {R C P T B : Nat} {ins wr ot wt : Int32} {SR SC SP AR AC AO AB K S : Nat} {ma mk se bg mq mn : Int32} {ce ad aq sh kp nu nq : Nat → Int32} (hA : te_A R C P T B ins wr ot wt SR SC SP AR AC AO AB K) (hF : te_F ot ce ad aq) (hH : te_H S ma mk se bg mq mn nu nq) : te_R ((nI R), (nI C), (nI P), (nI T), (nI B), ins, wr, ot, wt, (nI SR), (nI SC), (nI SP), (nI AR), (nI AC), (nI AO), (nI AB), (nI K), (nI S), ma, mk, se, ce, ad, sh, kp, nu) ((nI R), (nI C), (nI P), (nI T), (nI B), ins, wr, ot, wt, (nI SR), (nI SC), (nI SP), (nI AR), (nI AC), (nI AO), (nI AB), (nI K), (nI S), bg, mq, mn, ce, sh, aq, kp, nq) := by
  unfold te_R
  exact ⟨R, C, P, T, B, ins, wr, ot, wt, SR, SC, SP, AR, AC, AO, AB, K, S, ma, mk, se, bg, mq, mn, ce, ad, aq, sh, kp, nu, nq, rfl, rfl, hA, hF, hH⟩
def i_Rel (k : Nat) (u : SX) (v : SY) : Prop := te_R u v
theorem i_up {k : Nat} {u : SX} {v : SY} (h : i_Rel k u v) : i_Rel (k + 3) u v := h
theorem i_vc0 : wpX_init (fun u => wpY_init (fun v => i_Rel 0 u v)) := by
  refine te_xinit ?_
  refine te_yinit ?_
  refine te_mk (R := 0) (C := 0) (P := 0) (T := 0) (B := 5) (SR := 0) (SC := 0) (SP := 0) (AR := 0) (AC := 0) (AO := 0) (AB := 0) (K := 0) (S := 0) ?_ ?_ ?_
  · exact ⟨by omega, by omega, by omega, by omega, by omega, te_0, te_1, te_0, te_0, by omega, by omega, by omega, by omega, by omega, by omega, by omega, by omega⟩
  · exact ⟨te_rgCl te_rg0 _ _, te_rg0, fun _ _ => rfl, Or.inl rfl⟩
  · exact ⟨fun _ _ => rfl, Or.inl rfl⟩
/-- either outside of the screen, for both, or at a row and a column -/
theorem te_on (x y : Int32) : (∀ (pX : Int32 → Prop), pX 0 → wpX_onScreen pX x y) ∧ (∀ (pY : Int32 → Prop) (w : SY), pY 0 → wpY_is pY w x y) ∨ (∃ a b : Nat, a < 6 ∧ b < 12 ∧ x = nI a ∧ y = nI b) ∧ (∀ (pX : Int32 → Prop), pX 1 → wpX_onScreen pX x y) ∧ (∀ (pY : Int32 → Prop) (w : SY), pY 1 → wpY_is pY w x y) := by
  by_cases h1 : x < 0
  · exact Or.inl ⟨fun _ h => br_t h1 h, fun _ (w1, w2, w3, w4, w5, w6, w7, w8, w9, w10, w11, w12, w13, w14, w15, w16, w17, w18, w19, w20, w21, w22, w23, w24, w25, w26) h => br_t h1 h⟩
  by_cases h2 : 5 < x
  · exact Or.inl ⟨fun _ h => br_f h1 (br_t h2 h), fun _ (w1, w2, w3, w4, w5, w6, w7, w8, w9, w10, w11, w12, w13, w14, w15, w16, w17, w18, w19, w20, w21, w22, w23, w24, w25, w26) h => br_f h1 (br_t h2 h)⟩
  by_cases h3 : y < 0
  · exact Or.inl ⟨fun _ h => br_f h1 (br_f h2 (br_t h3 h)), fun _ (w1, w2, w3, w4, w5, w6, w7, w8, w9, w10, w11, w12, w13, w14, w15, w16, w17, w18, w19, w20, w21, w22, w23, w24, w25, w26) h => br_f h1 (br_f h2 (br_t h3 h))⟩
  by_cases h4 : 11 < y
  · exact Or.inl ⟨fun _ h => br_f h1 (br_f h2 (br_f h3 (br_t h4 h))), fun _ (w1, w2, w3, w4, w5, w6, w7, w8, w9, w10, w11, w12, w13, w14, w15, w16, w17, w18, w19, w20, w21, w22, w23, w24, w25, w26) h => br_f h1 (br_f h2 (br_f h3 (br_t h4 h)))⟩
  obtain ⟨a, ha, rfl⟩ := nI_of2 (n := 5) (M := 5) (by decide) h1 (Int32.not_lt.mp h2)
  obtain ⟨b, hb, rfl⟩ := nI_of2 (n := 11) (M := 11) (by decide) h3 (Int32.not_lt.mp h4)
  exact Or.inr ⟨⟨a, b, by omega, by omega, rfl, rfl⟩, fun _ h => br_f h1 (br_f h2 (br_f h3 (br_f h4 h))), fun _ (w1, w2, w3, w4, w5, w6, w7, w8, w9, w10, w11, w12, w13, w14, w15, w16, w17, w18, w19, w20, w21, w22, w23, w24, w25, w26) h => br_f h1 (br_f h2 (br_f h3 (br_f h4 h)))⟩
theorem i_vc_sign {k : Nat} {u : SX} {v : SY} (I : i_Rel k u v) (hk : k + 3 ≤ 1536) (v1 : Int32) (v2 : Int32) : wpX_sign (fun r => wpY_sign (fun r' => r' = r ∧ i_Rel (k + 3) u v) v v1 v2) u v1 v2 := by
  have J : i_Rel (k + 3) u v := I
  obtain ⟨R, C, P, T, B, ins, wr, ot, wt, SR, SC, SP, AR, AC, AO, AB, K, S, ma, mk, se, bg, mq, mn, ce, ad, aq, sh, kp, nu, nq, rfl, rfl, hA, hF, hH⟩ := I
  unfold wpX_sign wpY_sign
  rcases te_on v1 v2 with ⟨hX, hY⟩ | ⟨⟨a, b, ha, hb, rfl, rfl⟩, hX, hY⟩
  · exact hX _ (br_t rfl (hY _ _ (br_t rfl ⟨rfl, J⟩)))
  · refine hX _ (br_f te_10 ⟨?_, ?_⟩)
    · rw [te_ix]
      exact vp_in_nI (by omega) (by omega)
    · refine hY _ _ (br_f te_10 ⟨?_, by decide, ?_, J⟩)
      · rw [te_iy]
        exact vp_in_nI (by omega) (by omega)
      · rw [te_ix, te_iy]
        exact te_keepRow hF.1 _
theorem i_vc_style {k : Nat} {u : SX} {v : SY} (I : i_Rel k u v) (hk : k + 3 ≤ 1536) (v1 : Int32) (v2 : Int32) : wpX_style (fun r => wpY_style (fun r' => r' = r ∧ i_Rel (k + 3) u v) v v1 v2) u v1 v2 := by
  have J : i_Rel (k + 3) u v := I
  obtain ⟨R, C, P, T, B, ins, wr, ot, wt, SR, SC, SP, AR, AC, AO, AB, K, S, ma, mk, se, bg, mq, mn, ce, ad, aq, sh, kp, nu, nq, rfl, rfl, hA, hF, hH⟩ := I
  unfold wpX_style wpY_style
  rcases te_on v1 v2 with ⟨hX, hY⟩ | ⟨⟨a, b, ha, hb, rfl, rfl⟩, hX, hY⟩
  · exact hX _ (br_t rfl (hY _ _ (br_t rfl ⟨rfl, J⟩)))
  · refine hX _ (br_f te_10 ⟨?_, by decide, ?_⟩)
    · rw [te_ix]
      exact vp_in_nI (by omega) (by omega)
    · refine hY _ _ (br_f te_10 ⟨?_, by decide, ?_, J⟩)
      · rw [te_iy]
        exact vp_in_nI (by omega) (by omega)
      · rw [te_ix, te_iy]
theorem i_vc_shown {k : Nat} {u : SX} {v : SY} (I : i_Rel k u v) (hk : k + 3 ≤ 1536) (v1 : Int32) (v2 : Int32) : wpX_shown (fun r => wpY_shown (fun r' => r' = r ∧ i_Rel (k + 3) u v) v v1 v2) u v1 v2 := by
  have J : i_Rel (k + 3) u v := I
  obtain ⟨R, C, P, T, B, ins, wr, ot, wt, SR, SC, SP, AR, AC, AO, AB, K, S, ma, mk, se, bg, mq, mn, ce, ad, aq, sh, kp, nu, nq, rfl, rfl, hA, hF, hH⟩ := I
  unfold wpX_shown wpY_shown
  rcases te_on v1 v2 with ⟨hX, hY⟩ | ⟨⟨a, b, ha, hb, rfl, rfl⟩, hX, hY⟩
  · exact hX _ (br_t rfl (hY _ _ (br_t rfl ⟨rfl, J⟩)))
  · refine hX _ (br_f te_10 ⟨?_, ?_⟩)
    · rw [te_ix]
      exact vp_in_nI (by omega) (by omega)
    · refine hY _ _ (br_f te_10 ⟨?_, ?_, J⟩)
      · rw [te_iy]
        exact vp_in_nI (by omega) (by omega)
      · rw [te_ix, te_iy]
theorem i_vc_row {k : Nat} {u : SX} {v : SY} (I : i_Rel k u v) (hk : k + 3 ≤ 1536) : wpX_row (fun r => wpY_row (fun r' => r' = r ∧ i_Rel (k + 3) u v) v) u := by
  have J : i_Rel (k + 3) u v := I
  obtain ⟨R, C, P, T, B, ins, wr, ot, wt, SR, SC, SP, AR, AC, AO, AB, K, S, ma, mk, se, bg, mq, mn, ce, ad, aq, sh, kp, nu, nq, rfl, rfl, hA, hF, hH⟩ := I
  exact ⟨rfl, J⟩
theorem i_vc_column {k : Nat} {u : SX} {v : SY} (I : i_Rel k u v) (hk : k + 3 ≤ 1536) : wpX_column (fun r => wpY_column (fun r' => r' = r ∧ i_Rel (k + 3) u v) v) u := by
  have J : i_Rel (k + 3) u v := I
  obtain ⟨R, C, P, T, B, ins, wr, ot, wt, SR, SC, SP, AR, AC, AO, AB, K, S, ma, mk, se, bg, mq, mn, ce, ad, aq, sh, kp, nu, nq, rfl, rfl, hA, hF, hH⟩ := I
  exact ⟨rfl, J⟩
theorem i_vc_waits {k : Nat} {u : SX} {v : SY} (I : i_Rel k u v) (hk : k + 3 ≤ 1536) : wpX_waits (fun r => wpY_waits (fun r' => r' = r ∧ i_Rel (k + 3) u v) v) u := by
  have J : i_Rel (k + 3) u v := I
  obtain ⟨R, C, P, T, B, ins, wr, ot, wt, SR, SC, SP, AR, AC, AO, AB, K, S, ma, mk, se, bg, mq, mn, ce, ad, aq, sh, kp, nu, nq, rfl, rfl, hA, hF, hH⟩ := I
  obtain ⟨hR, hC, hP, hTB, hB, hin, hwr, hot, hwt, hs⟩ := hA
  exact And.intro (te_nb hwt) (And.intro (te_nb hwt) ⟨rfl, J⟩)
theorem i_vc_pen {k : Nat} {u : SX} {v : SY} (I : i_Rel k u v) (hk : k + 3 ≤ 1536) : wpX_pen (fun r => wpY_pen (fun r' => r' = r ∧ i_Rel (k + 3) u v) v) u := by
  have J : i_Rel (k + 3) u v := I
  obtain ⟨R, C, P, T, B, ins, wr, ot, wt, SR, SC, SP, AR, AC, AO, AB, K, S, ma, mk, se, bg, mq, mn, ce, ad, aq, sh, kp, nu, nq, rfl, rfl, hA, hF, hH⟩ := I
  exact ⟨rfl, J⟩
theorem i_vc_region {k : Nat} {u : SX} {v : SY} (I : i_Rel k u v) (hk : k + 3 ≤ 1536) : wpX_region (fun r => wpY_region (fun r' => r' = r ∧ i_Rel (k + 3) u v) v) u := by
  have J : i_Rel (k + 3) u v := I
  obtain ⟨R, C, P, T, B, ins, wr, ot, wt, SR, SC, SP, AR, AC, AO, AB, K, S, ma, mk, se, bg, mq, mn, ce, ad, aq, sh, kp, nu, nq, rfl, rfl, hA, hF, hH⟩ := I
  exact ⟨rfl, J⟩
theorem i_vc_modes {k : Nat} {u : SX} {v : SY} (I : i_Rel k u v) (hk : k + 3 ≤ 1536) : wpX_modes (fun r => wpY_modes (fun r' => r' = r ∧ i_Rel (k + 3) u v) v) u := by
  have J : i_Rel (k + 3) u v := I
  obtain ⟨R, C, P, T, B, ins, wr, ot, wt, SR, SC, SP, AR, AC, AO, AB, K, S, ma, mk, se, bg, mq, mn, ce, ad, aq, sh, kp, nu, nq, rfl, rfl, hA, hF, hH⟩ := I
  exact br_c (fun h1 => br_c (fun h2 => br_c (fun h3 => br_t h1 (br_t h2 (br_t h3 ⟨rfl, J⟩))) (fun h3 => br_t h1 (br_t h2 (br_f h3 ⟨rfl, J⟩)))) (fun h2 => br_c (fun h3 => br_t h1 (br_f h2 (br_t h3 ⟨rfl, J⟩))) (fun h3 => br_t h1 (br_f h2 (br_f h3 ⟨rfl, J⟩))))) (fun h1 => br_c (fun h2 => br_c (fun h3 => br_f h1 (br_t h2 (br_t h3 ⟨rfl, J⟩))) (fun h3 => br_f h1 (br_t h2 (br_f h3 ⟨rfl, J⟩)))) (fun h2 => br_c (fun h3 => br_f h1 (br_f h2 (br_t h3 ⟨rfl, J⟩))) (fun h3 => br_f h1 (br_f h2 (br_f h3 ⟨rfl, J⟩)))))
theorem i_vc_sequence {k : Nat} {u : SX} {v : SY} (I : i_Rel k u v) (hk : k + 3 ≤ 1536) : wpX_sequence (fun r => wpY_sequence (fun r' => r' = r ∧ i_Rel (k + 3) u v) v) u := by
  have J : i_Rel (k + 3) u v := I
  obtain ⟨R, C, P, T, B, ins, wr, ot, wt, SR, SC, SP, AR, AC, AO, AB, K, S, ma, mk, se, bg, mq, mn, ce, ad, aq, sh, kp, nu, nq, rfl, rfl, hA, hF, hH⟩ := I
  exact ⟨rfl, J⟩
theorem i_vc_keptRows {k : Nat} {u : SX} {v : SY} (I : i_Rel k u v) (hk : k + 3 ≤ 1536) : wpX_keptRows (fun r => wpY_keptRows (fun r' => r' = r ∧ i_Rel (k + 3) u v) v) u := by
  have J : i_Rel (k + 3) u v := I
  obtain ⟨R, C, P, T, B, ins, wr, ot, wt, SR, SC, SP, AR, AC, AO, AB, K, S, ma, mk, se, bg, mq, mn, ce, ad, aq, sh, kp, nu, nq, rfl, rfl, hA, hF, hH⟩ := I
  exact ⟨rfl, J⟩
theorem i_vc_kept {k : Nat} {u : SX} {v : SY} (I : i_Rel k u v) (hk : k + 3 ≤ 1536) (v1 : Int32) (v2 : Int32) : wpX_kept (fun r => wpY_kept (fun r' => r' = r ∧ i_Rel (k + 3) u v) v v1 v2) u v1 v2 := by
  have J : i_Rel (k + 3) u v := I
  obtain ⟨R, C, P, T, B, ins, wr, ot, wt, SR, SC, SP, AR, AC, AO, AB, K, S, ma, mk, se, bg, mq, mn, ce, ad, aq, sh, kp, nu, nq, rfl, rfl, hA, hF, hH⟩ := I
  obtain ⟨hR, hC, hP, hTB, hB, hin, hwr, hot, hwt, hsr, hsc, hsp, har, hac, hao, hab, hK⟩ := hA
  unfold wpX_kept wpY_kept
  by_cases h1 : v1 < 0
  · exact br_t h1 (br_t h1 ⟨rfl, J⟩)
  by_cases h2 : nI K ≤ v1
  · exact br_f h1 (br_t h2 (br_f h1 (br_t h2 ⟨rfl, J⟩)))
  by_cases h3 : v2 < 0
  · exact br_f h1 (br_f h2 (br_t h3 (br_f h1 (br_f h2 (br_t h3 ⟨rfl, J⟩)))))
  by_cases h4 : v2 ≤ 11
  · have h4' : ¬ 11 < v2 := Int32.not_lt.mpr h4
    obtain ⟨a, ha, rfl⟩ := nI_of h1
    have hak : a < K := by
      by_cases z : a < K
      · exact z
      · exact absurd (nI_le (by omega) ha) h2
    obtain ⟨b, hb, rfl⟩ := nI_of2 (n := 11) (M := 11) (by decide) h3 h4
    refine br_f h1 (br_f h2 (br_f h3 (br_t h4 ⟨?_, ?_⟩)))
    · rw [te_ix]
      exact vp_in_nI (by omega) (by omega)
    · refine br_f h1 (br_f h2 (br_f h3 (br_f h4' ⟨?_, ?_, J⟩)))
      · rw [te_iy]
        exact vp_in_nI (by omega) (by omega)
      · rw [te_ix, te_iy]
  · have h4' : 11 < v2 := Int32.not_le.mp h4
    exact br_f h1 (br_f h2 (br_f h3 (br_f h4 (br_f h1 (br_f h2 (br_f h3 (br_t h4' ⟨rfl, J⟩)))))))
theorem i_vc_refresh {k : Nat} {u : SX} {v : SY} (I : i_Rel k u v) (hk : k + 3 ≤ 1536) : wpX_refresh (fun r u' => wpY_refresh (fun r' v' => r' = r ∧ i_Rel (k + 3) u' v') v) u := by
  obtain ⟨R, C, P, T, B, ins, wr, ot, wt, SR, SC, SP, AR, AC, AO, AB, K, S, ma, mk, se, bg, mq, mn, ce, ad, aq, sh, kp, nu, nq, rfl, rfl, hA, hF, hH⟩ := I
  refine te_xrefresh ?_
  refine te_yrefresh ?_
  exact ⟨rfl, te_mk hA hF hH⟩
theorem i_vc_stale {k : Nat} {u : SX} {v : SY} (I : i_Rel k u v) (hk : k + 3 ≤ 1536) : wpX_stale (fun r => wpY_stale (fun r' => r' = r ∧ i_Rel (k + 3) u v) v) u := by
  have J : i_Rel (k + 3) u v := I
  obtain ⟨R, C, P, T, B, ins, wr, ot, wt, SR, SC, SP, AR, AC, AO, AB, K, S, ma, mk, se, bg, mq, mn, ce, ad, aq, sh, kp, nu, nq, rfl, rfl, hA, hF, hH⟩ := I
  refine te_xstale ?_
  refine te_ystale ?_
  exact ⟨rfl, J⟩
end
section
/-! the reference: which way a last byte goes -/
def te_To {σ : Type} (W : (σ → Prop) → Prop) (z : σ) : Prop := ∀ post : σ → Prop, post z → W post
section
variable {R C P T B SR SC SP AR AC AO AB K : Nat} {ins wr ot wt bg mq mn : Int32} {ce aq sh kp nq : Nat → Int32} {p q n : Nat} {Z : SY}
theorem te_yk65 (hw : te_b01 wt) (hq : q < 1000) (h : te_To (fun t => wpY_move t ((nI R), (nI C), (nI P), (nI T), (nI B), ins, wr, ot, 0, (nI SR), (nI SC), (nI SP), (nI AR), (nI AC), (nI AO), (nI AB), (nI K), 0, bg, 0, mn, ce, sh, aq, kp, nq) 65 (nI n) (nI (te_max q 1))) Z) : te_To (fun t => wpY_known t ((nI R), (nI C), (nI P), (nI T), (nI B), ins, wr, ot, wt, (nI SR), (nI SC), (nI SP), (nI AR), (nI AC), (nI AO), (nI AB), (nI K), 0, bg, 0, mn, ce, sh, aq, kp, nq) 65 (nI p) (nI q) (nI n)) Z := by
  obtain ⟨z1, z2, z3, z4, z5, z6, z7, z8, z9, z10, z11, z12, z13, z14, z15, z16, z17, z18, z19, z20, z21, z22, z23, z24, z25, z26⟩ := Z
  intro post hz
  have J : wY_known_138 post 65 (nI p) (nI q) (nI n) 1 0 0 (nI R) (nI C) (nI P) (nI T) (nI B) ins wr ot wt (nI SR) (nI SC) (nI SP) (nI AR) (nI AC) (nI AO) (nI AB) (nI K) 0 bg 0 mn ce sh aq kp nq := by
    refine And.intro (te_nb te_0) (And.intro (te_fb te_0) (br_f te_10 ?_))
    unfold te_max at h
    by_cases h0 : q = 0
    · subst h0
      rw [if_pos (by omega)] at h
      refine br_t nI_0 (h _ ?_)
      exact hz
    · by_cases h1 : q ≤ 1
      · obtain rfl : q = 1 := by omega
        rw [if_pos (by omega)] at h
        refine br_f (by decide) (h _ ?_)
        exact hz
      · rw [if_neg h1] at h
        refine br_f (nI_ne0 (by omega) (by omega)) (h _ ?_)
        exact hz
  exact br_f (by decide) (br_t (by decide) (br_f (by decide) (br_f (by decide) (br_f (by decide) (br_f (by decide) (br_f (by decide) (br_f (by decide) (br_f (by decide) (br_f (by decide) (br_f (by decide) (br_f (by decide) (br_c (fun _ => J) (fun _ => br_f te_10 J)))))))))))))
theorem te_yk66 (hw : te_b01 wt) (hq : q < 1000) (h : te_To (fun t => wpY_move t ((nI R), (nI C), (nI P), (nI T), (nI B), ins, wr, ot, 0, (nI SR), (nI SC), (nI SP), (nI AR), (nI AC), (nI AO), (nI AB), (nI K), 0, bg, 0, mn, ce, sh, aq, kp, nq) 66 (nI n) (nI (te_max q 1))) Z) : te_To (fun t => wpY_known t ((nI R), (nI C), (nI P), (nI T), (nI B), ins, wr, ot, wt, (nI SR), (nI SC), (nI SP), (nI AR), (nI AC), (nI AO), (nI AB), (nI K), 0, bg, 0, mn, ce, sh, aq, kp, nq) 66 (nI p) (nI q) (nI n)) Z := by
  obtain ⟨z1, z2, z3, z4, z5, z6, z7, z8, z9, z10, z11, z12, z13, z14, z15, z16, z17, z18, z19, z20, z21, z22, z23, z24, z25, z26⟩ := Z
  intro post hz
  have J : wY_known_138 post 66 (nI p) (nI q) (nI n) 1 0 0 (nI R) (nI C) (nI P) (nI T) (nI B) ins wr ot wt (nI SR) (nI SC) (nI SP) (nI AR) (nI AC) (nI AO) (nI AB) (nI K) 0 bg 0 mn ce sh aq kp nq := by
    refine And.intro (te_nb te_0) (And.intro (te_fb te_0) (br_f te_10 ?_))
    unfold te_max at h
    by_cases h0 : q = 0
    · subst h0
      rw [if_pos (by omega)] at h
      refine br_t nI_0 (h _ ?_)
      exact hz
    · by_cases h1 : q ≤ 1
      · obtain rfl : q = 1 := by omega
        rw [if_pos (by omega)] at h
        refine br_f (by decide) (h _ ?_)
        exact hz
      · rw [if_neg h1] at h
        refine br_f (nI_ne0 (by omega) (by omega)) (h _ ?_)
        exact hz
  exact br_f (by decide) (br_t (by decide) (br_f (by decide) (br_f (by decide) (br_f (by decide) (br_f (by decide) (br_f (by decide) (br_f (by decide) (br_f (by decide) (br_f (by decide) (br_f (by decide) (br_f (by decide) (br_c (fun _ => J) (fun _ => br_f te_10 J)))))))))))))
theorem te_yk67 (hw : te_b01 wt) (hq : q < 1000) (h : te_To (fun t => wpY_move t ((nI R), (nI C), (nI P), (nI T), (nI B), ins, wr, ot, 0, (nI SR), (nI SC), (nI SP), (nI AR), (nI AC), (nI AO), (nI AB), (nI K), 0, bg, 0, mn, ce, sh, aq, kp, nq) 67 (nI n) (nI (te_max q 1))) Z) : te_To (fun t => wpY_known t ((nI R), (nI C), (nI P), (nI T), (nI B), ins, wr, ot, wt, (nI SR), (nI SC), (nI SP), (nI AR), (nI AC), (nI AO), (nI AB), (nI K), 0, bg, 0, mn, ce, sh, aq, kp, nq) 67 (nI p) (nI q) (nI n)) Z := by
  obtain ⟨z1, z2, z3, z4, z5, z6, z7, z8, z9, z10, z11, z12, z13, z14, z15, z16, z17, z18, z19, z20, z21, z22, z23, z24, z25, z26⟩ := Z
  intro post hz
  have J : wY_known_138 post 67 (nI p) (nI q) (nI n) 1 0 0 (nI R) (nI C) (nI P) (nI T) (nI B) ins wr ot wt (nI SR) (nI SC) (nI SP) (nI AR) (nI AC) (nI AO) (nI AB) (nI K) 0 bg 0 mn ce sh aq kp nq := by
    refine And.intro (te_nb te_0) (And.intro (te_fb te_0) (br_f te_10 ?_))
    unfold te_max at h
    by_cases h0 : q = 0
    · subst h0
      rw [if_pos (by omega)] at h
      refine br_t nI_0 (h _ ?_)
      exact hz
    · by_cases h1 : q ≤ 1
      · obtain rfl : q = 1 := by omega
        rw [if_pos (by omega)] at h
        refine br_f (by decide) (h _ ?_)
        exact hz
      · rw [if_neg h1] at h
        refine br_f (nI_ne0 (by omega) (by omega)) (h _ ?_)
        exact hz
  exact br_f (by decide) (br_t (by decide) (br_f (by decide) (br_f (by decide) (br_f (by decide) (br_f (by decide) (br_f (by decide) (br_f (by decide) (br_f (by decide) (br_f (by decide) (br_f (by decide) (br_f (by decide) (br_c (fun _ => J) (fun _ => br_f te_10 J)))))))))))))
theorem te_yk68 (hw : te_b01 wt) (hq : q < 1000) (h : te_To (fun t => wpY_move t ((nI R), (nI C), (nI P), (nI T), (nI B), ins, wr, ot, 0, (nI SR), (nI SC), (nI SP), (nI AR), (nI AC), (nI AO), (nI AB), (nI K), 0, bg, 0, mn, ce, sh, aq, kp, nq) 68 (nI n) (nI (te_max q 1))) Z) : te_To (fun t => wpY_known t ((nI R), (nI C), (nI P), (nI T), (nI B), ins, wr, ot, wt, (nI SR), (nI SC), (nI SP), (nI AR), (nI AC), (nI AO), (nI AB), (nI K), 0, bg, 0, mn, ce, sh, aq, kp, nq) 68 (nI p) (nI q) (nI n)) Z := by
  obtain ⟨z1, z2, z3, z4, z5, z6, z7, z8, z9, z10, z11, z12, z13, z14, z15, z16, z17, z18, z19, z20, z21, z22, z23, z24, z25, z26⟩ := Z
  intro post hz
  have J : wY_known_138 post 68 (nI p) (nI q) (nI n) 1 0 0 (nI R) (nI C) (nI P) (nI T) (nI B) ins wr ot wt (nI SR) (nI SC) (nI SP) (nI AR) (nI AC) (nI AO) (nI AB) (nI K) 0 bg 0 mn ce sh aq kp nq := by
    refine And.intro (te_nb te_0) (And.intro (te_fb te_0) (br_f te_10 ?_))
    unfold te_max at h
    by_cases h0 : q = 0
    · subst h0
      rw [if_pos (by omega)] at h
      refine br_t nI_0 (h _ ?_)
      exact hz
    · by_cases h1 : q ≤ 1
      · obtain rfl : q = 1 := by omega
        rw [if_pos (by omega)] at h
        refine br_f (by decide) (h _ ?_)
        exact hz
      · rw [if_neg h1] at h
        refine br_f (nI_ne0 (by omega) (by omega)) (h _ ?_)
        exact hz
  exact br_f (by decide) (br_t (by decide) (br_f (by decide) (br_f (by decide) (br_f (by decide) (br_f (by decide) (br_f (by decide) (br_f (by decide) (br_f (by decide) (br_f (by decide) (br_f (by decide) (br_f (by decide) (br_c (fun _ => J) (fun _ => br_f te_10 J)))))))))))))
theorem te_yk71 (hw : te_b01 wt) (hq : q < 1000) (h : te_To (fun t => wpY_move t ((nI R), (nI C), (nI P), (nI T), (nI B), ins, wr, ot, 0, (nI SR), (nI SC), (nI SP), (nI AR), (nI AC), (nI AO), (nI AB), (nI K), 0, bg, 0, mn, ce, sh, aq, kp, nq) 71 (nI n) (nI (te_max q 1))) Z) : te_To (fun t => wpY_known t ((nI R), (nI C), (nI P), (nI T), (nI B), ins, wr, ot, wt, (nI SR), (nI SC), (nI SP), (nI AR), (nI AC), (nI AO), (nI AB), (nI K), 0, bg, 0, mn, ce, sh, aq, kp, nq) 71 (nI p) (nI q) (nI n)) Z := by
  obtain ⟨z1, z2, z3, z4, z5, z6, z7, z8, z9, z10, z11, z12, z13, z14, z15, z16, z17, z18, z19, z20, z21, z22, z23, z24, z25, z26⟩ := Z
  intro post hz
  have J : wY_known_138 post 71 (nI p) (nI q) (nI n) 1 0 0 (nI R) (nI C) (nI P) (nI T) (nI B) ins wr ot wt (nI SR) (nI SC) (nI SP) (nI AR) (nI AC) (nI AO) (nI AB) (nI K) 0 bg 0 mn ce sh aq kp nq := by
    refine And.intro (te_nb te_0) (And.intro (te_fb te_0) (br_f te_10 ?_))
    unfold te_max at h
    by_cases h0 : q = 0
    · subst h0
      rw [if_pos (by omega)] at h
      refine br_t nI_0 (h _ ?_)
      exact hz
    · by_cases h1 : q ≤ 1
      · obtain rfl : q = 1 := by omega
        rw [if_pos (by omega)] at h
        refine br_f (by decide) (h _ ?_)
        exact hz
      · rw [if_neg h1] at h
        refine br_f (nI_ne0 (by omega) (by omega)) (h _ ?_)
        exact hz
  exact br_f (by decide) (br_f (by decide) (br_t (by decide) (br_f (by decide) (br_f (by decide) (br_f (by decide) (br_f (by decide) (br_f (by decide) (br_f (by decide) (br_f (by decide) (br_f (by decide) (br_f (by decide) (br_f (by decide) (br_c (fun _ => J) (fun _ => br_f te_10 J))))))))))))))
theorem te_yk72 (hw : te_b01 wt) (hq : q < 1000) (h : te_To (fun t => wpY_move t ((nI R), (nI C), (nI P), (nI T), (nI B), ins, wr, ot, 0, (nI SR), (nI SC), (nI SP), (nI AR), (nI AC), (nI AO), (nI AB), (nI K), 0, bg, 0, mn, ce, sh, aq, kp, nq) 72 (nI n) (nI (te_max q 1))) Z) : te_To (fun t => wpY_known t ((nI R), (nI C), (nI P), (nI T), (nI B), ins, wr, ot, wt, (nI SR), (nI SC), (nI SP), (nI AR), (nI AC), (nI AO), (nI AB), (nI K), 0, bg, 0, mn, ce, sh, aq, kp, nq) 72 (nI p) (nI q) (nI n)) Z := by
  obtain ⟨z1, z2, z3, z4, z5, z6, z7, z8, z9, z10, z11, z12, z13, z14, z15, z16, z17, z18, z19, z20, z21, z22, z23, z24, z25, z26⟩ := Z
  intro post hz
  have J : wY_known_138 post 72 (nI p) (nI q) (nI n) 1 0 0 (nI R) (nI C) (nI P) (nI T) (nI B) ins wr ot wt (nI SR) (nI SC) (nI SP) (nI AR) (nI AC) (nI AO) (nI AB) (nI K) 0 bg 0 mn ce sh aq kp nq := by
    refine And.intro (te_nb te_0) (And.intro (te_fb te_0) (br_f te_10 ?_))
    unfold te_max at h
    by_cases h0 : q = 0
    · subst h0
      rw [if_pos (by omega)] at h
      refine br_t nI_0 (h _ ?_)
      exact hz
    · by_cases h1 : q ≤ 1
      · obtain rfl : q = 1 := by omega
        rw [if_pos (by omega)] at h
        refine br_f (by decide) (h _ ?_)
        exact hz
      · rw [if_neg h1] at h
        refine br_f (nI_ne0 (by omega) (by omega)) (h _ ?_)
        exact hz
  exact br_f (by decide) (br_f (by decide) (br_f (by decide) (br_t (by decide) (br_f (by decide) (br_f (by decide) (br_f (by decide) (br_f (by decide) (br_f (by decide) (br_f (by decide) (br_f (by decide) (br_f (by decide) (br_f (by decide) (br_f (by decide) (br_c (fun _ => J) (fun _ => br_f te_10 J)))))))))))))))
theorem te_yk100 (hw : te_b01 wt) (hq : q < 1000) (h : te_To (fun t => wpY_move t ((nI R), (nI C), (nI P), (nI T), (nI B), ins, wr, ot, 0, (nI SR), (nI SC), (nI SP), (nI AR), (nI AC), (nI AO), (nI AB), (nI K), 0, bg, 0, mn, ce, sh, aq, kp, nq) 100 (nI n) (nI (te_max q 1))) Z) : te_To (fun t => wpY_known t ((nI R), (nI C), (nI P), (nI T), (nI B), ins, wr, ot, wt, (nI SR), (nI SC), (nI SP), (nI AR), (nI AC), (nI AO), (nI AB), (nI K), 0, bg, 0, mn, ce, sh, aq, kp, nq) 100 (nI p) (nI q) (nI n)) Z := by
  obtain ⟨z1, z2, z3, z4, z5, z6, z7, z8, z9, z10, z11, z12, z13, z14, z15, z16, z17, z18, z19, z20, z21, z22, z23, z24, z25, z26⟩ := Z
  intro post hz
  have J : wY_known_138 post 100 (nI p) (nI q) (nI n) 1 0 0 (nI R) (nI C) (nI P) (nI T) (nI B) ins wr ot wt (nI SR) (nI SC) (nI SP) (nI AR) (nI AC) (nI AO) (nI AB) (nI K) 0 bg 0 mn ce sh aq kp nq := by
    refine And.intro (te_nb te_0) (And.intro (te_fb te_0) (br_f te_10 ?_))
    unfold te_max at h
    by_cases h0 : q = 0
    · subst h0
      rw [if_pos (by omega)] at h
      refine br_t nI_0 (h _ ?_)
      exact hz
    · by_cases h1 : q ≤ 1
      · obtain rfl : q = 1 := by omega
        rw [if_pos (by omega)] at h
        refine br_f (by decide) (h _ ?_)
        exact hz
      · rw [if_neg h1] at h
        refine br_f (nI_ne0 (by omega) (by omega)) (h _ ?_)
        exact hz
  exact br_f (by decide) (br_f (by decide) (br_f (by decide) (br_f (by decide) (br_t (by decide) (br_f (by decide) (br_f (by decide) (br_f (by decide) (br_f (by decide) (br_f (by decide) (br_f (by decide) (br_f (by decide) (br_f (by decide) (br_f (by decide) (br_f (by decide) (br_c (fun _ => J) (fun _ => br_f te_10 J))))))))))))))))
theorem te_yk74 (hw : te_b01 wt) (h : te_To (fun t => wpY_cut t ((nI R), (nI C), (nI P), (nI T), (nI B), ins, wr, ot, 0, (nI SR), (nI SC), (nI SP), (nI AR), (nI AC), (nI AO), (nI AB), (nI K), 0, bg, 0, mn, ce, sh, aq, kp, nq) 74 (nI p) (nI n)) Z) : te_To (fun t => wpY_known t ((nI R), (nI C), (nI P), (nI T), (nI B), ins, wr, ot, wt, (nI SR), (nI SC), (nI SP), (nI AR), (nI AC), (nI AO), (nI AB), (nI K), 0, bg, 0, mn, ce, sh, aq, kp, nq) 74 (nI p) (nI q) (nI n)) Z := by
  obtain ⟨z1, z2, z3, z4, z5, z6, z7, z8, z9, z10, z11, z12, z13, z14, z15, z16, z17, z18, z19, z20, z21, z22, z23, z24, z25, z26⟩ := Z
  intro post hz
  have J : wY_known_138 post 74 (nI p) (nI q) (nI n) 0 1 0 (nI R) (nI C) (nI P) (nI T) (nI B) ins wr ot wt (nI SR) (nI SC) (nI SP) (nI AR) (nI AC) (nI AO) (nI AB) (nI K) 0 bg 0 mn ce sh aq kp nq := by
    refine And.intro (te_nb te_0) (And.intro (te_fb te_0) (br_t rfl (br_f te_10 (h _ ?_))))
    exact hz
  exact br_f (by decide) (br_f (by decide) (br_f (by decide) (br_f (by decide) (br_f (by decide) (br_t (by decide) (br_f (by decide) (br_f (by decide) (br_f (by decide) (br_f (by decide) (br_f (by decide) (br_c (fun _ => J) (fun _ => br_t rfl (br_f te_10 J)))))))))))))
theorem te_yk75 (hw : te_b01 wt) (h : te_To (fun t => wpY_cut t ((nI R), (nI C), (nI P), (nI T), (nI B), ins, wr, ot, 0, (nI SR), (nI SC), (nI SP), (nI AR), (nI AC), (nI AO), (nI AB), (nI K), 0, bg, 0, mn, ce, sh, aq, kp, nq) 75 (nI p) (nI n)) Z) : te_To (fun t => wpY_known t ((nI R), (nI C), (nI P), (nI T), (nI B), ins, wr, ot, wt, (nI SR), (nI SC), (nI SP), (nI AR), (nI AC), (nI AO), (nI AB), (nI K), 0, bg, 0, mn, ce, sh, aq, kp, nq) 75 (nI p) (nI q) (nI n)) Z := by
  obtain ⟨z1, z2, z3, z4, z5, z6, z7, z8, z9, z10, z11, z12, z13, z14, z15, z16, z17, z18, z19, z20, z21, z22, z23, z24, z25, z26⟩ := Z
  intro post hz
  have J : wY_known_138 post 75 (nI p) (nI q) (nI n) 0 1 0 (nI R) (nI C) (nI P) (nI T) (nI B) ins wr ot wt (nI SR) (nI SC) (nI SP) (nI AR) (nI AC) (nI AO) (nI AB) (nI K) 0 bg 0 mn ce sh aq kp nq := by
    refine And.intro (te_nb te_0) (And.intro (te_fb te_0) (br_t rfl (br_f te_10 (h _ ?_))))
    exact hz
  exact br_f (by decide) (br_f (by decide) (br_f (by decide) (br_f (by decide) (br_f (by decide) (br_f (by decide) (br_t (by decide) (br_f (by decide) (br_f (by decide) (br_f (by decide) (br_f (by decide) (br_f (by decide) (br_c (fun _ => J) (fun _ => br_t rfl (br_f te_10 J))))))))))))))
theorem te_yk88 (hw : te_b01 wt) (h : te_To (fun t => wpY_cut t ((nI R), (nI C), (nI P), (nI T), (nI B), ins, wr, ot, 0, (nI SR), (nI SC), (nI SP), (nI AR), (nI AC), (nI AO), (nI AB), (nI K), 0, bg, 0, mn, ce, sh, aq, kp, nq) 88 (nI p) (nI n)) Z) : te_To (fun t => wpY_known t ((nI R), (nI C), (nI P), (nI T), (nI B), ins, wr, ot, wt, (nI SR), (nI SC), (nI SP), (nI AR), (nI AC), (nI AO), (nI AB), (nI K), 0, bg, 0, mn, ce, sh, aq, kp, nq) 88 (nI p) (nI q) (nI n)) Z := by
  obtain ⟨z1, z2, z3, z4, z5, z6, z7, z8, z9, z10, z11, z12, z13, z14, z15, z16, z17, z18, z19, z20, z21, z22, z23, z24, z25, z26⟩ := Z
  intro post hz
  have J : wY_known_138 post 88 (nI p) (nI q) (nI n) 0 1 0 (nI R) (nI C) (nI P) (nI T) (nI B) ins wr ot wt (nI SR) (nI SC) (nI SP) (nI AR) (nI AC) (nI AO) (nI AB) (nI K) 0 bg 0 mn ce sh aq kp nq := by
    refine And.intro (te_nb te_0) (And.intro (te_fb te_0) (br_t rfl (br_f te_10 (h _ ?_))))
    exact hz
  exact br_f (by decide) (br_f (by decide) (br_f (by decide) (br_f (by decide) (br_f (by decide) (br_f (by decide) (br_f (by decide) (br_t (by decide) (br_f (by decide) (br_f (by decide) (br_f (by decide) (br_f (by decide) (br_f (by decide) (br_c (fun _ => J) (fun _ => br_t rfl (br_f te_10 J)))))))))))))))
theorem te_yk80 (hw : te_b01 wt) (h : te_To (fun t => wpY_cut t ((nI R), (nI C), (nI P), (nI T), (nI B), ins, wr, ot, 0, (nI SR), (nI SC), (nI SP), (nI AR), (nI AC), (nI AO), (nI AB), (nI K), 0, bg, 0, mn, ce, sh, aq, kp, nq) 80 (nI p) (nI n)) Z) : te_To (fun t => wpY_known t ((nI R), (nI C), (nI P), (nI T), (nI B), ins, wr, ot, wt, (nI SR), (nI SC), (nI SP), (nI AR), (nI AC), (nI AO), (nI AB), (nI K), 0, bg, 0, mn, ce, sh, aq, kp, nq) 80 (nI p) (nI q) (nI n)) Z := by
  obtain ⟨z1, z2, z3, z4, z5, z6, z7, z8, z9, z10, z11, z12, z13, z14, z15, z16, z17, z18, z19, z20, z21, z22, z23, z24, z25, z26⟩ := Z
  intro post hz
  have J : wY_known_138 post 80 (nI p) (nI q) (nI n) 0 1 0 (nI R) (nI C) (nI P) (nI T) (nI B) ins wr ot wt (nI SR) (nI SC) (nI SP) (nI AR) (nI AC) (nI AO) (nI AB) (nI K) 0 bg 0 mn ce sh aq kp nq := by
    refine And.intro (te_nb te_0) (And.intro (te_fb te_0) (br_t rfl (br_f te_10 (h _ ?_))))
    exact hz
  exact br_f (by decide) (br_f (by decide) (br_f (by decide) (br_f (by decide) (br_f (by decide) (br_f (by decide) (br_f (by decide) (br_f (by decide) (br_t (by decide) (br_f (by decide) (br_f (by decide) (br_f (by decide) (br_f (by decide) (br_f (by decide) (br_c (fun _ => J) (fun _ => br_t rfl (br_f te_10 J))))))))))))))))
theorem te_yk64 (hw : te_b01 wt) (h : te_To (fun t => wpY_cut t ((nI R), (nI C), (nI P), (nI T), (nI B), ins, wr, ot, 0, (nI SR), (nI SC), (nI SP), (nI AR), (nI AC), (nI AO), (nI AB), (nI K), 0, bg, 0, mn, ce, sh, aq, kp, nq) 64 (nI p) (nI n)) Z) : te_To (fun t => wpY_known t ((nI R), (nI C), (nI P), (nI T), (nI B), ins, wr, ot, wt, (nI SR), (nI SC), (nI SP), (nI AR), (nI AC), (nI AO), (nI AB), (nI K), 0, bg, 0, mn, ce, sh, aq, kp, nq) 64 (nI p) (nI q) (nI n)) Z := by
  obtain ⟨z1, z2, z3, z4, z5, z6, z7, z8, z9, z10, z11, z12, z13, z14, z15, z16, z17, z18, z19, z20, z21, z22, z23, z24, z25, z26⟩ := Z
  intro post hz
  have J : wY_known_138 post 64 (nI p) (nI q) (nI n) 0 1 0 (nI R) (nI C) (nI P) (nI T) (nI B) ins wr ot wt (nI SR) (nI SC) (nI SP) (nI AR) (nI AC) (nI AO) (nI AB) (nI K) 0 bg 0 mn ce sh aq kp nq := by
    refine And.intro (te_nb te_0) (And.intro (te_fb te_0) (br_t rfl (br_f te_10 (h _ ?_))))
    exact hz
  exact br_t (by decide) (br_f (by decide) (br_f (by decide) (br_f (by decide) (br_f (by decide) (br_f (by decide) (br_f (by decide) (br_f (by decide) (br_t (by decide) (br_f (by decide) (br_f (by decide) (br_f (by decide) (br_f (by decide) (br_f (by decide) (br_c (fun _ => J) (fun _ => br_t rfl (br_f te_10 J))))))))))))))))
theorem te_yk76 (hw : te_b01 wt) (h : te_To (fun t => wpY_moveRows t ((nI R), (nI C), (nI P), (nI T), (nI B), ins, wr, ot, 0, (nI SR), (nI SC), (nI SP), (nI AR), (nI AC), (nI AO), (nI AB), (nI K), 0, bg, 0, mn, ce, sh, aq, kp, nq) 76 (nI n)) Z) : te_To (fun t => wpY_known t ((nI R), (nI C), (nI P), (nI T), (nI B), ins, wr, ot, wt, (nI SR), (nI SC), (nI SP), (nI AR), (nI AC), (nI AO), (nI AB), (nI K), 0, bg, 0, mn, ce, sh, aq, kp, nq) 76 (nI p) (nI q) (nI n)) Z := by
  obtain ⟨z1, z2, z3, z4, z5, z6, z7, z8, z9, z10, z11, z12, z13, z14, z15, z16, z17, z18, z19, z20, z21, z22, z23, z24, z25, z26⟩ := Z
  intro post hz
  have J : wY_known_138 post 76 (nI p) (nI q) (nI n) 0 0 1 (nI R) (nI C) (nI P) (nI T) (nI B) ins wr ot wt (nI SR) (nI SC) (nI SP) (nI AR) (nI AC) (nI AO) (nI AB) (nI K) 0 bg 0 mn ce sh aq kp nq := by
    refine And.intro (te_nb te_0) (And.intro (te_fb te_0) (br_t rfl (br_t rfl (br_f (by decide) (br_f te_10 (h _ ?_))))))
    exact hz
  exact br_f (by decide) (br_f (by decide) (br_f (by decide) (br_f (by decide) (br_f (by decide) (br_f (by decide) (br_f (by decide) (br_f (by decide) (br_f (by decide) (br_f (by decide) (br_t (by decide) (br_c (fun _ => J) (fun _ => br_t rfl (br_t rfl (br_f te_10 J))))))))))))))
theorem te_yk77 (hw : te_b01 wt) (h : te_To (fun t => wpY_moveRows t ((nI R), (nI C), (nI P), (nI T), (nI B), ins, wr, ot, 0, (nI SR), (nI SC), (nI SP), (nI AR), (nI AC), (nI AO), (nI AB), (nI K), 0, bg, 0, mn, ce, sh, aq, kp, nq) 77 (nI n)) Z) : te_To (fun t => wpY_known t ((nI R), (nI C), (nI P), (nI T), (nI B), ins, wr, ot, wt, (nI SR), (nI SC), (nI SP), (nI AR), (nI AC), (nI AO), (nI AB), (nI K), 0, bg, 0, mn, ce, sh, aq, kp, nq) 77 (nI p) (nI q) (nI n)) Z := by
  obtain ⟨z1, z2, z3, z4, z5, z6, z7, z8, z9, z10, z11, z12, z13, z14, z15, z16, z17, z18, z19, z20, z21, z22, z23, z24, z25, z26⟩ := Z
  intro post hz
  have J : wY_known_138 post 77 (nI p) (nI q) (nI n) 0 0 1 (nI R) (nI C) (nI P) (nI T) (nI B) ins wr ot wt (nI SR) (nI SC) (nI SP) (nI AR) (nI AC) (nI AO) (nI AB) (nI K) 0 bg 0 mn ce sh aq kp nq := by
    refine And.intro (te_nb te_0) (And.intro (te_fb te_0) (br_t rfl (br_t rfl (br_f (by decide) (br_f te_10 (h _ ?_))))))
    exact hz
  exact br_f (by decide) (br_f (by decide) (br_f (by decide) (br_f (by decide) (br_f (by decide) (br_f (by decide) (br_f (by decide) (br_f (by decide) (br_f (by decide) (br_f (by decide) (br_f (by decide) (br_t (by decide) (br_c (fun _ => J) (fun _ => br_t rfl (br_t rfl (br_f te_10 J)))))))))))))))
theorem te_yk83 (hw : te_b01 wt) (h : te_To (fun t => wpY_moveRows t ((nI R), (nI C), (nI P), (nI T), (nI B), ins, wr, ot, 0, (nI SR), (nI SC), (nI SP), (nI AR), (nI AC), (nI AO), (nI AB), (nI K), 0, bg, 0, mn, ce, sh, aq, kp, nq) 83 (nI n)) Z) : te_To (fun t => wpY_known t ((nI R), (nI C), (nI P), (nI T), (nI B), ins, wr, ot, wt, (nI SR), (nI SC), (nI SP), (nI AR), (nI AC), (nI AO), (nI AB), (nI K), 0, bg, 0, mn, ce, sh, aq, kp, nq) 83 (nI p) (nI q) (nI n)) Z := by
  obtain ⟨z1, z2, z3, z4, z5, z6, z7, z8, z9, z10, z11, z12, z13, z14, z15, z16, z17, z18, z19, z20, z21, z22, z23, z24, z25, z26⟩ := Z
  intro post hz
  have J : wY_known_138 post 83 (nI p) (nI q) (nI n) 0 0 1 (nI R) (nI C) (nI P) (nI T) (nI B) ins wr ot wt (nI SR) (nI SC) (nI SP) (nI AR) (nI AC) (nI AO) (nI AB) (nI K) 0 bg 0 mn ce sh aq kp nq := by
    refine And.intro (te_nb te_0) (And.intro (te_fb te_0) (br_t rfl (br_t rfl (br_f (by decide) (br_f te_10 (h _ ?_))))))
    exact hz
  exact br_f (by decide) (br_f (by decide) (br_f (by decide) (br_f (by decide) (br_f (by decide) (br_f (by decide) (br_f (by decide) (br_f (by decide) (br_f (by decide) (br_f (by decide) (br_f (by decide) (br_f (by decide) (br_t (by decide) (br_c (fun _ => J) (fun _ => br_t rfl (br_t rfl (br_f te_10 J))))))))))))))))
theorem te_yk84 (hw : te_b01 wt) (h : te_To (fun t => wpY_moveRows t ((nI R), (nI C), (nI P), (nI T), (nI B), ins, wr, ot, 0, (nI SR), (nI SC), (nI SP), (nI AR), (nI AC), (nI AO), (nI AB), (nI K), 0, bg, 0, mn, ce, sh, aq, kp, nq) 84 (nI n)) Z) : te_To (fun t => wpY_known t ((nI R), (nI C), (nI P), (nI T), (nI B), ins, wr, ot, wt, (nI SR), (nI SC), (nI SP), (nI AR), (nI AC), (nI AO), (nI AB), (nI K), 0, bg, 0, mn, ce, sh, aq, kp, nq) 84 (nI p) (nI q) (nI n)) Z := by
  obtain ⟨z1, z2, z3, z4, z5, z6, z7, z8, z9, z10, z11, z12, z13, z14, z15, z16, z17, z18, z19, z20, z21, z22, z23, z24, z25, z26⟩ := Z
  intro post hz
  have J : wY_known_138 post 84 (nI p) (nI q) (nI n) 0 0 1 (nI R) (nI C) (nI P) (nI T) (nI B) ins wr ot wt (nI SR) (nI SC) (nI SP) (nI AR) (nI AC) (nI AO) (nI AB) (nI K) 0 bg 0 mn ce sh aq kp nq := by
    refine And.intro (te_nb te_0) (And.intro (te_fb te_0) (br_t rfl (br_t rfl (br_f (by decide) (br_f te_10 (h _ ?_))))))
    exact hz
  exact br_f (by decide) (br_f (by decide) (br_f (by decide) (br_f (by decide) (br_f (by decide) (br_f (by decide) (br_f (by decide) (br_f (by decide) (br_f (by decide) (br_f (by decide) (br_f (by decide) (br_f (by decide) (br_f (by decide) (br_t (by decide) (br_c (fun _ => J) (fun _ => br_t rfl (br_t rfl (br_f te_10 J)))))))))))))))))
/-- r: q = 0 counts as 6 -/
def te_q6 (q : Nat) : Nat := if q = 0 then 6 else q
theorem te_yk114 (hw : te_b01 wt) (hq : q < 1000) (h : te_To (fun t => wY_known_198 t (nI n) (nI (te_q6 q)) (nI R) (nI C) (nI P) (nI T) (nI B) ins wr ot 0 (nI SR) (nI SC) (nI SP) (nI AR) (nI AC) (nI AO) (nI AB) (nI K) 0 bg 0 mn ce sh aq kp nq) Z) : te_To (fun t => wpY_known t ((nI R), (nI C), (nI P), (nI T), (nI B), ins, wr, ot, wt, (nI SR), (nI SC), (nI SP), (nI AR), (nI AC), (nI AO), (nI AB), (nI K), 0, bg, 0, mn, ce, sh, aq, kp, nq) 114 (nI p) (nI q) (nI n)) Z := by
  obtain ⟨z1, z2, z3, z4, z5, z6, z7, z8, z9, z10, z11, z12, z13, z14, z15, z16, z17, z18, z19, z20, z21, z22, z23, z24, z25, z26⟩ := Z
  intro post hz
  have J : wY_known_138 post 114 (nI p) (nI q) (nI n) 0 0 1 (nI R) (nI C) (nI P) (nI T) (nI B) ins wr ot wt (nI SR) (nI SC) (nI SP) (nI AR) (nI AC) (nI AO) (nI AB) (nI K) 0 bg 0 mn ce sh aq kp nq := by
    refine And.intro (te_nb te_0) (And.intro (te_fb te_0) (br_t rfl (br_t rfl (br_t rfl ?_))))
    unfold te_q6 at h
    by_cases h0 : q = 0
    · subst h0
      rw [if_pos rfl] at h
      refine br_t nI_0 (h _ ?_)
      exact hz
    · rw [if_neg h0] at h
      refine br_f (nI_ne0 (by omega) (by omega)) (h _ ?_)
      exact hz
  exact br_f (by decide) (br_f (by decide) (br_f (by decide) (br_f (by decide) (br_f (by decide) (br_f (by decide) (br_f (by decide) (br_f (by decide) (br_f (by decide) (br_f (by decide) (br_f (by decide) (br_f (by decide) (br_f (by decide) (br_f (by decide) (br_t (by decide) (br_c (fun _ => J) (fun _ => br_t rfl (br_t rfl (br_f te_10 J))))))))))))))))))
theorem te_ykN {x : Int32} (hw : te_b01 wt) (h64 : ¬ x = 64) (h65 : ¬ x = 65) (h66 : ¬ x = 66) (h67 : ¬ x = 67) (h68 : ¬ x = 68) (h71 : ¬ x = 71) (h72 : ¬ x = 72) (h74 : ¬ x = 74) (h75 : ¬ x = 75) (h76 : ¬ x = 76) (h77 : ¬ x = 77) (h80 : ¬ x = 80) (h83 : ¬ x = 83) (h84 : ¬ x = 84) (h88 : ¬ x = 88) (h100 : ¬ x = 100) (h114 : ¬ x = 114) (hlo : ¬ x < 65 → ¬ x ≤ 68) : te_To (fun t => wpY_known t ((nI R), (nI C), (nI P), (nI T), (nI B), ins, wr, ot, wt, (nI SR), (nI SC), (nI SP), (nI AR), (nI AC), (nI AO), (nI AB), (nI K), 0, bg, 0, mn, ce, sh, aq, kp, nq) x (nI p) (nI q) (nI n)) ((nI R), (nI C), (nI P), (nI T), (nI B), ins, wr, ot, wt, (nI SR), (nI SC), (nI SP), (nI AR), (nI AC), (nI AO), (nI AB), (nI K), 0, bg, 0, mn, ce, sh, aq, kp, nq) := by
  intro post hz
  have J : ∀ z : Int32, te_b01 z → z = wt → wY_known_139 post x (nI p) (nI q) (nI n) 0 0 0 z (nI R) (nI C) (nI P) (nI T) (nI B) ins wr ot wt (nI SR) (nI SC) (nI SP) (nI AR) (nI AC) (nI AO) (nI AB) (nI K) 0 bg 0 mn ce sh aq kp nq := by
    intro z hb hzw
    subst hzw
    exact And.intro (te_nb hb) (And.intro (te_fb hb) (br_t rfl (br_t rfl (br_f h114 (br_t rfl hz)))))
  have G : wY_known_109 post x (nI p) (nI q) (nI n) 0 0 0 (nI R) (nI C) (nI P) (nI T) (nI B) ins wr ot wt (nI SR) (nI SC) (nI SP) (nI AR) (nI AC) (nI AO) (nI AB) (nI K) 0 bg 0 mn ce sh aq kp nq :=
    br_c (fun z => J 0 te_0 z.symm) (fun z => br_t rfl (br_t rfl (br_t rfl (J 1 te_1 (te_b1 hw z).symm))))
  have G12 : wY_known_12 post x (nI p) (nI q) (nI n) (nI R) (nI C) (nI P) (nI T) (nI B) ins wr ot wt (nI SR) (nI SC) (nI SP) (nI AR) (nI AC) (nI AO) (nI AB) (nI K) 0 bg 0 mn ce sh aq kp nq := br_f h71 (br_f h72 (br_f h100 (br_f h74 (br_f h75 (br_f h88 (br_f h80 (br_f h64 (br_f h76 (br_f h77 (br_f h83 (br_f h84 (br_f h114 (G)))))))))))))
  exact br_c (fun _ => G12) (fun z => br_f (hlo z) G12)
/-- into known(..) -/
theorem te_ylast {x : Int32} (h104 : ¬ x = 104) (h108 : ¬ x = 108) (h109 : ¬ x = 109) (hp : p < 1000) (e0 : nq 0 = nI p) (e1 : nq 1 = nI q) (h : te_To (fun t => wpY_known t ((nI R), (nI C), (nI P), (nI T), (nI B), ins, wr, ot, wt, (nI SR), (nI SC), (nI SP), (nI AR), (nI AC), (nI AO), (nI AB), (nI K), 0, bg, 0, mn, ce, sh, aq, kp, nq) x (nI p) (nI q) (nI (te_max p 1))) Z) : te_To (fun t => wpY_last t ((nI R), (nI C), (nI P), (nI T), (nI B), ins, wr, ot, wt, (nI SR), (nI SC), (nI SP), (nI AR), (nI AC), (nI AO), (nI AB), (nI K), 0, bg, 0, mn, ce, sh, aq, kp, nq) x) Z := by
  obtain ⟨z1, z2, z3, z4, z5, z6, z7, z8, z9, z10, z11, z12, z13, z14, z15, z16, z17, z18, z19, z20, z21, z22, z23, z24, z25, z26⟩ := Z
  intro post hz
  refine nm_r e0 (br_f h104 (br_f h104 (br_f h108 (br_f h109 (br_t rfl ?_)))))
  rw [e1]
  unfold te_max at h
  by_cases h0 : p = 0
  · subst h0
    rw [if_pos (by omega)] at h
    refine br_t nI_0 (h _ ?_)
    exact hz
  · by_cases h1 : p ≤ 1
    · obtain rfl : p = 1 := by omega
      rw [if_pos (by omega)] at h
      refine br_f (by decide) (h _ ?_)
      exact hz
    · rw [if_neg h1] at h
      refine br_f (nI_ne0 (by omega) (by omega)) (h _ ?_)
      exact hz
end
end
section
/-! the component: each last byte -/
def te_L65 (R T : Nat) : Nat := if R < T then 0 else T
def te_L66 (R B : Nat) : Nat := if R ≤ B then B else 5
def te_er (p s e a : Nat) (c : Nat → Int32) : Nat → Int32 := if p = 0 then te_cl c a e else if p = 1 then te_cl c s (a + 1) else if p = 2 then te_cl c s e else c
theorem te_n1 (p : Nat) : 1 ≤ te_max p 1 ∧ (p ≤ 99 → te_max p 1 ≤ 99) := by unfold te_max; split <;> omega
section
variable {post : SX → Prop} {r cc pn tp bo ins wr ot wt sr sc sp ar ac ao ab kc st ma mk se : Int32} {ce ad sh kp nu : Nat → Int32}
theorem te_xerase {x y : Int32} {R C p : Nat} (s e : Nat) (hx : x = nI s) (hy : y = nI e) (hR : R < 6) (hC : C < 12) (hp : p ≤ 99) (e0 : nu 0 = nI p) (hs : s ≤ 12 * R + C) (he : 12 * R + C < e) (h72 : e ≤ 72) (h : post ((nI R), (nI C), pn, tp, bo, ins, wr, ot, wt, sr, sc, sp, ar, ac, ao, ab, kc, st, ma, mk, se, (te_er p s e (12 * R + C) ce), ad, sh, kp, nu)) : wpX_erase post ((nI R), (nI C), pn, tp, bo, ins, wr, ot, wt, sr, sc, sp, ar, ac, ao, ab, kc, st, ma, mk, se, ce, ad, sh, kp, nu) x y := by
  unfold wpX_erase
  refine nm_r (te_ix R C) (nm_r e0 ?_)
  refine br_f (nI_pos (by omega)) ?_
  unfold te_er at h
  by_cases h0 : p = 0
  · subst h0
    rw [if_pos rfl] at h
    refine br_f (by decide) (br_t nI_0 ?_)
    refine te_xclear (12 * R + C) e rfl hy (by omega) h72 ?_
    exact h
  rw [if_neg h0] at h
  by_cases h1 : p = 1
  · subst h1
    rw [if_pos rfl] at h
    refine br_f (by decide) (br_f (by decide) (br_t rfl ?_))
    refine te_xclear s (12 * R + C + 1) hx (nI_1 _) (by omega) (by omega) ?_
    exact h
  rw [if_neg h1] at h
  by_cases h2 : p = 2
  · subst h2
    rw [if_pos rfl] at h
    refine br_f (by decide) (br_f (by decide) (br_f (by decide) (br_t rfl ?_)))
    refine te_xclear s e hx hy (by omega) h72 ?_
    exact h
  rw [if_neg h2] at h
  exact br_t (nI_lt (a := 2) (by omega) (by omega)) h
theorem te_xputInRows {x : Int32} {R T B n : Nat} (hx : x = nI n) (hT : T ≤ R) (hR : R ≤ B) (hB : B < 6) (h0 : 0 < n) (hn : n < 1000) (h : post ((nI R), 0, pn, (nI T), (nI B), ins, wr, ot, wt, sr, sc, sp, ar, ac, ao, ab, kc, st, ma, mk, se, (te_mo ce (12 * R) (12 * (B + 1)) (12 * n)), ad, sh, kp, nu)) : wpX_putInRows post ((nI R), cc, pn, (nI T), (nI B), ins, wr, ot, wt, sr, sc, sp, ar, ac, ao, ab, kc, st, ma, mk, se, ce, ad, sh, kp, nu) x := by
  subst hx
  unfold wpX_putInRows
  refine br_f (nI_nlt (by omega) (by omega)) (br_f (nI_nlt (by omega) (by omega)) ?_)
  refine te_xmoveOn (12 * R) (12 * (B + 1)) (12 * n) (te_m12 R) (te_b12 B) (te_m12 n) (by omega) (by omega) (by omega) (by omega) ?_
  exact h
theorem te_xtakeOutRows {x : Int32} {R T B n : Nat} (hx : x = nI n) (hT : T ≤ R) (hR : R ≤ B) (hB : B < 6) (h0 : 0 < n) (hn : n < 1000) (h : post ((nI R), 0, pn, (nI T), (nI B), ins, wr, ot, wt, sr, sc, sp, ar, ac, ao, ab, kc, st, ma, mk, se, (te_mb ce (12 * R) (12 * (B + 1)) (12 * n)), ad, sh, kp, nu)) : wpX_takeOutRows post ((nI R), cc, pn, (nI T), (nI B), ins, wr, ot, wt, sr, sc, sp, ar, ac, ao, ab, kc, st, ma, mk, se, ce, ad, sh, kp, nu) x := by
  subst hx
  unfold wpX_takeOutRows
  refine br_f (nI_nlt (by omega) (by omega)) (br_f (nI_nlt (by omega) (by omega)) ?_)
  refine te_xmoveBack (12 * R) (12 * (B + 1)) (12 * n) (te_m12 R) (te_b12 B) (te_m12 n) (by omega) (by omega) (by omega) (by omega) ?_
  exact h
theorem te_xputInRowsO {x : Int32} {R T B : Nat} (hO : R < T ∨ B < R) (hR : R < 6) (hT : T < 6) (hB : B < 6) (h : post ((nI R), cc, pn, (nI T), (nI B), ins, wr, ot, wt, sr, sc, sp, ar, ac, ao, ab, kc, st, ma, mk, se, ce, ad, sh, kp, nu)) : wpX_putInRows post ((nI R), cc, pn, (nI T), (nI B), ins, wr, ot, wt, sr, sc, sp, ar, ac, ao, ab, kc, st, ma, mk, se, ce, ad, sh, kp, nu) x := by
  unfold wpX_putInRows
  by_cases h1 : R < T
  · exact br_t (nI_lt h1 (by omega)) h
  · exact br_f (nI_nlt (by omega) (by omega)) (br_t (nI_lt (by omega) (by omega)) h)
theorem te_xtakeOutRowsO {x : Int32} {R T B : Nat} (hO : R < T ∨ B < R) (hR : R < 6) (hT : T < 6) (hB : B < 6) (h : post ((nI R), cc, pn, (nI T), (nI B), ins, wr, ot, wt, sr, sc, sp, ar, ac, ao, ab, kc, st, ma, mk, se, ce, ad, sh, kp, nu)) : wpX_takeOutRows post ((nI R), cc, pn, (nI T), (nI B), ins, wr, ot, wt, sr, sc, sp, ar, ac, ao, ab, kc, st, ma, mk, se, ce, ad, sh, kp, nu) x := by
  unfold wpX_takeOutRows
  by_cases h1 : R < T
  · exact br_t (nI_lt h1 (by omega)) h
  · exact br_f (nI_nlt (by omega) (by omega)) (br_t (nI_lt (by omega) (by omega)) h)
end
section
variable {R C P T B SR SC SP AR AC AO AB K : Nat} {ins wr ot wt se : Int32} {ce ad sh kp nu : Nat → Int32} {p q : Nat}
theorem te_xr65 (hR : R < 6) (hC : C < 12) (hP : P < 8) (hTB : T ≤ B) (hB : B < 6) (hK : K ≤ 8) (hp : p ≤ 99) (hq : q ≤ 99) (e0 : nu 0 = nI p) (e1 : nu 1 = nI q) : te_To (fun t => wpX_runPlain t ((nI R), (nI C), (nI P), (nI T), (nI B), ins, wr, ot, wt, (nI SR), (nI SC), (nI SP), (nI AR), (nI AC), (nI AO), (nI AB), (nI K), 0, 0, 0, se, ce, ad, sh, kp, nu) 65) ((nI (te_dec R (te_max p 1) (te_L65 R T))), (nI C), (nI P), (nI T), (nI B), ins, wr, ot, 0, (nI SR), (nI SC), (nI SP), (nI AR), (nI AC), (nI AO), (nI AB), (nI K), 0, 0, 0, se, ce, ad, sh, kp, nu) := by
  intro post h
  obtain ⟨hn1, hn9⟩ := te_n1 p
  have hn := hn9 hp
  unfold wpX_runPlain
  refine te_xgreat p 1 e0 rfl (by omega) (by omega) ?_
  refine nm_r (te_m12 R) (nm_r (nI_add (12 * R) 12) (nm_r (nI_add (12 * R) C) (br_f (by decide) (br_f (by decide) (br_f (by decide) (br_t rfl ?_))))))
  unfold wpX_moveUp
  by_cases hT : T ≤ R
  · have e : te_L65 R T = T := if_neg (by omega)
    rw [e] at h
    refine br_t (nI_le hT (by omega)) ?_
    refine te_xgreatS R (te_max p 1) T rfl rfl (by omega) (by omega) (by omega) ?_
    exact h
  · have e : te_L65 R T = 0 := if_pos (by omega)
    rw [e] at h
    refine br_f (nI_ge (by omega) (by omega)) ?_
    refine te_xgreatS R (te_max p 1) 0 rfl rfl (by omega) (by omega) (by omega) ?_
    exact h
theorem te_xr66 (hR : R < 6) (hC : C < 12) (hP : P < 8) (hTB : T ≤ B) (hB : B < 6) (hK : K ≤ 8) (hp : p ≤ 99) (hq : q ≤ 99) (e0 : nu 0 = nI p) (e1 : nu 1 = nI q) : te_To (fun t => wpX_runPlain t ((nI R), (nI C), (nI P), (nI T), (nI B), ins, wr, ot, wt, (nI SR), (nI SC), (nI SP), (nI AR), (nI AC), (nI AO), (nI AB), (nI K), 0, 0, 0, se, ce, ad, sh, kp, nu) 66) ((nI (te_min (R + (te_max p 1)) (te_L66 R B))), (nI C), (nI P), (nI T), (nI B), ins, wr, ot, 0, (nI SR), (nI SC), (nI SP), (nI AR), (nI AC), (nI AO), (nI AB), (nI K), 0, 0, 0, se, ce, ad, sh, kp, nu) := by
  intro post h
  obtain ⟨hn1, hn9⟩ := te_n1 p
  have hn := hn9 hp
  unfold wpX_runPlain
  refine te_xgreat p 1 e0 rfl (by omega) (by omega) ?_
  refine nm_r (te_m12 R) (nm_r (nI_add (12 * R) 12) (nm_r (nI_add (12 * R) C) (br_f (by decide) (br_f (by decide) (br_f (by decide) (br_f (by decide) (br_t rfl ?_)))))))
  unfold wpX_moveDown
  by_cases hT : R ≤ B
  · have e : te_L66 R B = B := if_pos hT
    rw [e] at h
    refine br_t (nI_le hT (by omega)) ?_
    refine te_xless (R + (te_max p 1)) B (nI_add _ _) rfl (by omega) (by omega) ?_
    exact h
  · have e : te_L66 R B = 5 := if_neg hT
    rw [e] at h
    refine br_f (nI_ge (by omega) (by omega)) ?_
    refine te_xless (R + (te_max p 1)) 5 (nI_add _ _) rfl (by omega) (by omega) ?_
    exact h
theorem te_xr67 (hR : R < 6) (hC : C < 12) (hP : P < 8) (hTB : T ≤ B) (hB : B < 6) (hK : K ≤ 8) (hp : p ≤ 99) (hq : q ≤ 99) (e0 : nu 0 = nI p) (e1 : nu 1 = nI q) : te_To (fun t => wpX_runPlain t ((nI R), (nI C), (nI P), (nI T), (nI B), ins, wr, ot, wt, (nI SR), (nI SC), (nI SP), (nI AR), (nI AC), (nI AO), (nI AB), (nI K), 0, 0, 0, se, ce, ad, sh, kp, nu) 67) ((nI R), (nI (te_min (C + (te_max p 1)) 11)), (nI P), (nI T), (nI B), ins, wr, ot, 0, (nI SR), (nI SC), (nI SP), (nI AR), (nI AC), (nI AO), (nI AB), (nI K), 0, 0, 0, se, ce, ad, sh, kp, nu) := by
  intro post h
  obtain ⟨hn1, hn9⟩ := te_n1 p
  have hn := hn9 hp
  unfold wpX_runPlain
  refine te_xgreat p 1 e0 rfl (by omega) (by omega) ?_
  refine nm_r (te_m12 R) (nm_r (nI_add (12 * R) 12) (nm_r (nI_add (12 * R) C) (br_f (by decide) (br_f (by decide) (br_f (by decide) (br_f (by decide) (br_f (by decide) (br_t rfl ?_))))))))
  refine te_xless (C + (te_max p 1)) 11 (nI_add _ _) rfl (by omega) (by omega) ?_
  exact h
theorem te_xr68 (hR : R < 6) (hC : C < 12) (hP : P < 8) (hTB : T ≤ B) (hB : B < 6) (hK : K ≤ 8) (hp : p ≤ 99) (hq : q ≤ 99) (e0 : nu 0 = nI p) (e1 : nu 1 = nI q) : te_To (fun t => wpX_runPlain t ((nI R), (nI C), (nI P), (nI T), (nI B), ins, wr, ot, wt, (nI SR), (nI SC), (nI SP), (nI AR), (nI AC), (nI AO), (nI AB), (nI K), 0, 0, 0, se, ce, ad, sh, kp, nu) 68) ((nI R), (nI (te_dec C (te_max p 1) 0)), (nI P), (nI T), (nI B), ins, wr, ot, 0, (nI SR), (nI SC), (nI SP), (nI AR), (nI AC), (nI AO), (nI AB), (nI K), 0, 0, 0, se, ce, ad, sh, kp, nu) := by
  intro post h
  obtain ⟨hn1, hn9⟩ := te_n1 p
  have hn := hn9 hp
  unfold wpX_runPlain
  refine te_xgreat p 1 e0 rfl (by omega) (by omega) ?_
  refine nm_r (te_m12 R) (nm_r (nI_add (12 * R) 12) (nm_r (nI_add (12 * R) C) (br_f (by decide) (br_f (by decide) (br_f (by decide) (br_f (by decide) (br_f (by decide) (br_f (by decide) (br_t rfl ?_)))))))))
  refine te_xgreatS C (te_max p 1) 0 rfl rfl (by omega) (by omega) (by omega) ?_
  exact h
theorem te_xr71 (hR : R < 6) (hC : C < 12) (hP : P < 8) (hTB : T ≤ B) (hB : B < 6) (hK : K ≤ 8) (hp : p ≤ 99) (hq : q ≤ 99) (e0 : nu 0 = nI p) (e1 : nu 1 = nI q) : te_To (fun t => wpX_runPlain t ((nI R), (nI C), (nI P), (nI T), (nI B), ins, wr, ot, wt, (nI SR), (nI SC), (nI SP), (nI AR), (nI AC), (nI AO), (nI AB), (nI K), 0, 0, 0, se, ce, ad, sh, kp, nu) 71) ((nI R), (nI (te_min ((te_max p 1) - 1) 11)), (nI P), (nI T), (nI B), ins, wr, ot, 0, (nI SR), (nI SC), (nI SP), (nI AR), (nI AC), (nI AO), (nI AB), (nI K), 0, 0, 0, se, ce, ad, sh, kp, nu) := by
  intro post h
  obtain ⟨hn1, hn9⟩ := te_n1 p
  have hn := hn9 hp
  unfold wpX_runPlain
  refine te_xgreat p 1 e0 rfl (by omega) (by omega) ?_
  refine nm_r (te_m12 R) (nm_r (nI_add (12 * R) 12) (nm_r (nI_add (12 * R) C) (br_f (by decide) (br_f (by decide) (br_f (by decide) (br_f (by decide) (br_f (by decide) (br_f (by decide) (br_f (by decide) (br_f (by decide) (br_f (by decide) (br_t rfl ?_))))))))))))
  refine te_xless ((te_max p 1) - 1) 11 (te_ns1 hn1) rfl (by omega) (by omega) ?_
  exact h
theorem te_xr100 (hR : R < 6) (hC : C < 12) (hP : P < 8) (hTB : T ≤ B) (hB : B < 6) (hK : K ≤ 8) (hp : p ≤ 99) (hq : q ≤ 99) (e0 : nu 0 = nI p) (e1 : nu 1 = nI q) : te_To (fun t => wpX_runPlain t ((nI R), (nI C), (nI P), (nI T), (nI B), ins, wr, ot, wt, (nI SR), (nI SC), (nI SP), (nI AR), (nI AC), (nI AO), (nI AB), (nI K), 0, 0, 0, se, ce, ad, sh, kp, nu) 100) ((nI (te_min ((te_max p 1) - 1) 5)), (nI C), (nI P), (nI T), (nI B), ins, wr, ot, 0, (nI SR), (nI SC), (nI SP), (nI AR), (nI AC), (nI AO), (nI AB), (nI K), 0, 0, 0, se, ce, ad, sh, kp, nu) := by
  intro post h
  obtain ⟨hn1, hn9⟩ := te_n1 p
  have hn := hn9 hp
  unfold wpX_runPlain
  refine te_xgreat p 1 e0 rfl (by omega) (by omega) ?_
  refine nm_r (te_m12 R) (nm_r (nI_add (12 * R) 12) (nm_r (nI_add (12 * R) C) (br_f (by decide) (br_f (by decide) (br_f (by decide) (br_f (by decide) (br_f (by decide) (br_f (by decide) (br_f (by decide) (br_f (by decide) (br_f (by decide) (br_f (by decide) (br_f (by decide) (br_f (by decide) (br_f (by decide) (br_f (by decide) (br_f (by decide) (br_f (by decide) (br_f (by decide) (br_f (by decide) (br_f (by decide) (br_f (by decide) (br_f (by decide) (br_f (by decide) (br_f (by decide) (br_f (by decide) (br_f (by decide) (br_f (by decide) (br_f (by decide) (br_f (by decide) (br_f (by decide) (br_f (by decide) (br_f (by decide) (br_f (by decide) (br_f (by decide) (br_f (by decide) (br_f (by decide) (br_f (by decide) (br_f (by decide) (br_f (by decide) (br_t rfl ?_)))))))))))))))))))))))))))))))))))))))))
  refine te_xless ((te_max p 1) - 1) 5 (te_ns1 hn1) rfl (by omega) (by omega) ?_
  exact h
theorem te_xr72 (hR : R < 6) (hC : C < 12) (hP : P < 8) (hTB : T ≤ B) (hB : B < 6) (hK : K ≤ 8) (hp : p ≤ 99) (hq : q ≤ 99) (e0 : nu 0 = nI p) (e1 : nu 1 = nI q) : te_To (fun t => wpX_runPlain t ((nI R), (nI C), (nI P), (nI T), (nI B), ins, wr, ot, wt, (nI SR), (nI SC), (nI SP), (nI AR), (nI AC), (nI AO), (nI AB), (nI K), 0, 0, 0, se, ce, ad, sh, kp, nu) 72) ((nI (te_min ((te_max p 1) - 1) 5)), (nI (te_min (te_max q 1 - 1) 11)), (nI P), (nI T), (nI B), ins, wr, ot, 0, (nI SR), (nI SC), (nI SP), (nI AR), (nI AC), (nI AO), (nI AB), (nI K), 0, 0, 0, se, ce, ad, sh, kp, nu) := by
  intro post h
  obtain ⟨hn1, hn9⟩ := te_n1 p
  have hn := hn9 hp
  unfold wpX_runPlain
  refine te_xgreat p 1 e0 rfl (by omega) (by omega) ?_
  refine nm_r (te_m12 R) (nm_r (nI_add (12 * R) 12) (nm_r (nI_add (12 * R) C) (br_f (by decide) (br_f (by decide) (br_f (by decide) (br_f (by decide) (br_f (by decide) (br_f (by decide) (br_f (by decide) (br_f (by decide) (br_f (by decide) (br_f (by decide) (br_t rfl ?_)))))))))))))
  obtain ⟨hq1, hq9⟩ := te_n1 q
  have hqq := hq9 hq
  unfold wpX_moveToPlace
  refine te_xgreat p 1 e0 rfl (by omega) (by omega) ?_
  refine te_xgreat q 1 e1 rfl (by omega) (by omega) ?_
  refine te_xless ((te_max p 1) - 1) 5 (te_ns1 hn1) rfl (by omega) (by omega) ?_
  refine te_xless (te_max q 1 - 1) 11 (te_ns1 hq1) rfl (by omega) (by omega) ?_
  exact h
theorem te_xr74 (hR : R < 6) (hC : C < 12) (hP : P < 8) (hTB : T ≤ B) (hB : B < 6) (hK : K ≤ 8) (hp : p ≤ 99) (hq : q ≤ 99) (e0 : nu 0 = nI p) (e1 : nu 1 = nI q) : te_To (fun t => wpX_runPlain t ((nI R), (nI C), (nI P), (nI T), (nI B), ins, wr, ot, wt, (nI SR), (nI SC), (nI SP), (nI AR), (nI AC), (nI AO), (nI AB), (nI K), 0, 0, 0, se, ce, ad, sh, kp, nu) 74) ((nI R), (nI C), (nI P), (nI T), (nI B), ins, wr, ot, 0, (nI SR), (nI SC), (nI SP), (nI AR), (nI AC), (nI AO), (nI AB), (nI K), 0, 0, 0, se, (te_er p 0 72 (12 * R + C) ce), ad, sh, kp, nu) := by
  intro post h
  obtain ⟨hn1, hn9⟩ := te_n1 p
  have hn := hn9 hp
  unfold wpX_runPlain
  refine te_xgreat p 1 e0 rfl (by omega) (by omega) ?_
  refine nm_r (te_m12 R) (nm_r (nI_add (12 * R) 12) (nm_r (nI_add (12 * R) C) (br_f (by decide) (br_f (by decide) (br_f (by decide) (br_f (by decide) (br_f (by decide) (br_f (by decide) (br_f (by decide) (br_f (by decide) (br_f (by decide) (br_f (by decide) (br_f (by decide) (br_f (by decide) (br_t rfl ?_)))))))))))))))
  refine te_xerase 0 72 rfl rfl hR hC hp e0 (by omega) (by omega) (by omega) ?_
  exact h
theorem te_xr75 (hR : R < 6) (hC : C < 12) (hP : P < 8) (hTB : T ≤ B) (hB : B < 6) (hK : K ≤ 8) (hp : p ≤ 99) (hq : q ≤ 99) (e0 : nu 0 = nI p) (e1 : nu 1 = nI q) : te_To (fun t => wpX_runPlain t ((nI R), (nI C), (nI P), (nI T), (nI B), ins, wr, ot, wt, (nI SR), (nI SC), (nI SP), (nI AR), (nI AC), (nI AO), (nI AB), (nI K), 0, 0, 0, se, ce, ad, sh, kp, nu) 75) ((nI R), (nI C), (nI P), (nI T), (nI B), ins, wr, ot, 0, (nI SR), (nI SC), (nI SP), (nI AR), (nI AC), (nI AO), (nI AB), (nI K), 0, 0, 0, se, (te_er p (12 * R) (12 * R + 12) (12 * R + C) ce), ad, sh, kp, nu) := by
  intro post h
  obtain ⟨hn1, hn9⟩ := te_n1 p
  have hn := hn9 hp
  unfold wpX_runPlain
  refine te_xgreat p 1 e0 rfl (by omega) (by omega) ?_
  refine nm_r (te_m12 R) (nm_r (nI_add (12 * R) 12) (nm_r (nI_add (12 * R) C) (br_f (by decide) (br_f (by decide) (br_f (by decide) (br_f (by decide) (br_f (by decide) (br_f (by decide) (br_f (by decide) (br_f (by decide) (br_f (by decide) (br_f (by decide) (br_f (by decide) (br_f (by decide) (br_f (by decide) (br_t rfl ?_))))))))))))))))
  refine te_xerase (12 * R) (12 * R + 12) rfl rfl hR hC hp e0 (by omega) (by omega) (by omega) ?_
  exact h
theorem te_xr88 (hR : R < 6) (hC : C < 12) (hP : P < 8) (hTB : T ≤ B) (hB : B < 6) (hK : K ≤ 8) (hp : p ≤ 99) (hq : q ≤ 99) (e0 : nu 0 = nI p) (e1 : nu 1 = nI q) : te_To (fun t => wpX_runPlain t ((nI R), (nI C), (nI P), (nI T), (nI B), ins, wr, ot, wt, (nI SR), (nI SC), (nI SP), (nI AR), (nI AC), (nI AO), (nI AB), (nI K), 0, 0, 0, se, ce, ad, sh, kp, nu) 88) ((nI R), (nI C), (nI P), (nI T), (nI B), ins, wr, ot, 0, (nI SR), (nI SC), (nI SP), (nI AR), (nI AC), (nI AO), (nI AB), (nI K), 0, 0, 0, se, (te_cl ce (12 * R + C) (12 * R + te_min (C + (te_max p 1)) 12)), ad, sh, kp, nu) := by
  intro post h
  obtain ⟨hn1, hn9⟩ := te_n1 p
  have hn := hn9 hp
  unfold wpX_runPlain
  refine te_xgreat p 1 e0 rfl (by omega) (by omega) ?_
  refine nm_r (te_m12 R) (nm_r (nI_add (12 * R) 12) (nm_r (nI_add (12 * R) C) (br_f (by decide) (br_f (by decide) (br_f (by decide) (br_f (by decide) (br_f (by decide) (br_f (by decide) (br_f (by decide) (br_f (by decide) (br_f (by decide) (br_f (by decide) (br_f (by decide) (br_f (by decide) (br_f (by decide) (br_f (by decide) (br_f (by decide) (br_f (by decide) (br_f (by decide) (br_f (by decide) (br_f (by decide) (br_f (by decide) (br_f (by decide) (br_f (by decide) (br_f (by decide) (br_f (by decide) (br_f (by decide) (br_f (by decide) (br_t rfl ?_)))))))))))))))))))))))))))))
  have hm : te_min (C + (te_max p 1)) 12 ≤ 12 ∧ C ≤ te_min (C + (te_max p 1)) 12 := by unfold te_min; split <;> omega
  unfold wpX_eraseSome
  refine nm_r (te_m12 R) ?_
  refine te_xless (C + (te_max p 1)) 12 (nI_add _ _) rfl (by omega) (by omega) ?_
  refine te_xclear (12 * R + C) (12 * R + te_min (C + (te_max p 1)) 12) (nI_add _ _) (nI_add _ _) (by omega) (by omega) ?_
  exact h
theorem te_xr80 (hR : R < 6) (hC : C < 12) (hP : P < 8) (hTB : T ≤ B) (hB : B < 6) (hK : K ≤ 8) (hp : p ≤ 99) (hq : q ≤ 99) (e0 : nu 0 = nI p) (e1 : nu 1 = nI q) : te_To (fun t => wpX_runPlain t ((nI R), (nI C), (nI P), (nI T), (nI B), ins, wr, ot, wt, (nI SR), (nI SC), (nI SP), (nI AR), (nI AC), (nI AO), (nI AB), (nI K), 0, 0, 0, se, ce, ad, sh, kp, nu) 80) ((nI R), (nI C), (nI P), (nI T), (nI B), ins, wr, ot, 0, (nI SR), (nI SC), (nI SP), (nI AR), (nI AC), (nI AO), (nI AB), (nI K), 0, 0, 0, se, (te_mb ce (12 * R + C) (12 * R + 12) (te_max p 1)), ad, sh, kp, nu) := by
  intro post h
  obtain ⟨hn1, hn9⟩ := te_n1 p
  have hn := hn9 hp
  unfold wpX_runPlain
  refine te_xgreat p 1 e0 rfl (by omega) (by omega) ?_
  refine nm_r (te_m12 R) (nm_r (nI_add (12 * R) 12) (nm_r (nI_add (12 * R) C) (br_f (by decide) (br_f (by decide) (br_f (by decide) (br_f (by decide) (br_f (by decide) (br_f (by decide) (br_f (by decide) (br_f (by decide) (br_f (by decide) (br_f (by decide) (br_f (by decide) (br_f (by decide) (br_f (by decide) (br_f (by decide) (br_f (by decide) (br_f (by decide) (br_f (by decide) (br_f (by decide) (br_t rfl ?_)))))))))))))))))))))
  refine te_xmoveBack (12 * R + C) (12 * R + 12) (te_max p 1) rfl rfl rfl (by omega) (by omega) (by omega) (by omega) ?_
  exact h
theorem te_xr64 (hR : R < 6) (hC : C < 12) (hP : P < 8) (hTB : T ≤ B) (hB : B < 6) (hK : K ≤ 8) (hp : p ≤ 99) (hq : q ≤ 99) (e0 : nu 0 = nI p) (e1 : nu 1 = nI q) : te_To (fun t => wpX_runPlain t ((nI R), (nI C), (nI P), (nI T), (nI B), ins, wr, ot, wt, (nI SR), (nI SC), (nI SP), (nI AR), (nI AC), (nI AO), (nI AB), (nI K), 0, 0, 0, se, ce, ad, sh, kp, nu) 64) ((nI R), (nI C), (nI P), (nI T), (nI B), ins, wr, ot, 0, (nI SR), (nI SC), (nI SP), (nI AR), (nI AC), (nI AO), (nI AB), (nI K), 0, 0, 0, se, (te_mo ce (12 * R + C) (12 * R + 12) (te_max p 1)), ad, sh, kp, nu) := by
  intro post h
  obtain ⟨hn1, hn9⟩ := te_n1 p
  have hn := hn9 hp
  unfold wpX_runPlain
  refine te_xgreat p 1 e0 rfl (by omega) (by omega) ?_
  refine nm_r (te_m12 R) (nm_r (nI_add (12 * R) 12) (nm_r (nI_add (12 * R) C) (br_f (by decide) (br_f (by decide) (br_t rfl ?_)))))
  refine te_xmoveOn (12 * R + C) (12 * R + 12) (te_max p 1) rfl rfl rfl (by omega) (by omega) (by omega) (by omega) ?_
  exact h
theorem te_xr76 (hR : R < 6) (hC : C < 12) (hP : P < 8) (hTB : T ≤ B) (hB : B < 6) (hK : K ≤ 8) (hp : p ≤ 99) (hq : q ≤ 99) (e0 : nu 0 = nI p) (e1 : nu 1 = nI q) (hT : T ≤ R) (hRB : R ≤ B) : te_To (fun t => wpX_runPlain t ((nI R), (nI C), (nI P), (nI T), (nI B), ins, wr, ot, wt, (nI SR), (nI SC), (nI SP), (nI AR), (nI AC), (nI AO), (nI AB), (nI K), 0, 0, 0, se, ce, ad, sh, kp, nu) 76) ((nI R), 0, (nI P), (nI T), (nI B), ins, wr, ot, 0, (nI SR), (nI SC), (nI SP), (nI AR), (nI AC), (nI AO), (nI AB), (nI K), 0, 0, 0, se, (te_mo ce (12 * R) (12 * (B + 1)) (12 * (te_max p 1))), ad, sh, kp, nu) := by
  intro post h
  obtain ⟨hn1, hn9⟩ := te_n1 p
  have hn := hn9 hp
  unfold wpX_runPlain
  refine te_xgreat p 1 e0 rfl (by omega) (by omega) ?_
  refine nm_r (te_m12 R) (nm_r (nI_add (12 * R) 12) (nm_r (nI_add (12 * R) C) (br_f (by decide) (br_f (by decide) (br_f (by decide) (br_f (by decide) (br_f (by decide) (br_f (by decide) (br_f (by decide) (br_f (by decide) (br_f (by decide) (br_f (by decide) (br_f (by decide) (br_f (by decide) (br_f (by decide) (br_f (by decide) (br_t rfl ?_)))))))))))))))))
  refine te_xputInRows rfl hT hRB hB (by omega) (by omega) ?_
  exact h
theorem te_xr76o (hR : R < 6) (hC : C < 12) (hP : P < 8) (hTB : T ≤ B) (hB : B < 6) (hK : K ≤ 8) (hp : p ≤ 99) (hq : q ≤ 99) (e0 : nu 0 = nI p) (e1 : nu 1 = nI q) (hO : R < T ∨ B < R) : te_To (fun t => wpX_runPlain t ((nI R), (nI C), (nI P), (nI T), (nI B), ins, wr, ot, wt, (nI SR), (nI SC), (nI SP), (nI AR), (nI AC), (nI AO), (nI AB), (nI K), 0, 0, 0, se, ce, ad, sh, kp, nu) 76) ((nI R), (nI C), (nI P), (nI T), (nI B), ins, wr, ot, 0, (nI SR), (nI SC), (nI SP), (nI AR), (nI AC), (nI AO), (nI AB), (nI K), 0, 0, 0, se, ce, ad, sh, kp, nu) := by
  intro post h
  obtain ⟨hn1, hn9⟩ := te_n1 p
  have hn := hn9 hp
  unfold wpX_runPlain
  refine te_xgreat p 1 e0 rfl (by omega) (by omega) ?_
  refine nm_r (te_m12 R) (nm_r (nI_add (12 * R) 12) (nm_r (nI_add (12 * R) C) (br_f (by decide) (br_f (by decide) (br_f (by decide) (br_f (by decide) (br_f (by decide) (br_f (by decide) (br_f (by decide) (br_f (by decide) (br_f (by decide) (br_f (by decide) (br_f (by decide) (br_f (by decide) (br_f (by decide) (br_f (by decide) (br_t rfl ?_)))))))))))))))))
  refine te_xputInRowsO hO hR (by omega) hB ?_
  exact h
theorem te_xr77 (hR : R < 6) (hC : C < 12) (hP : P < 8) (hTB : T ≤ B) (hB : B < 6) (hK : K ≤ 8) (hp : p ≤ 99) (hq : q ≤ 99) (e0 : nu 0 = nI p) (e1 : nu 1 = nI q) (hT : T ≤ R) (hRB : R ≤ B) : te_To (fun t => wpX_runPlain t ((nI R), (nI C), (nI P), (nI T), (nI B), ins, wr, ot, wt, (nI SR), (nI SC), (nI SP), (nI AR), (nI AC), (nI AO), (nI AB), (nI K), 0, 0, 0, se, ce, ad, sh, kp, nu) 77) ((nI R), 0, (nI P), (nI T), (nI B), ins, wr, ot, 0, (nI SR), (nI SC), (nI SP), (nI AR), (nI AC), (nI AO), (nI AB), (nI K), 0, 0, 0, se, (te_mb ce (12 * R) (12 * (B + 1)) (12 * (te_max p 1))), ad, sh, kp, nu) := by
  intro post h
  obtain ⟨hn1, hn9⟩ := te_n1 p
  have hn := hn9 hp
  unfold wpX_runPlain
  refine te_xgreat p 1 e0 rfl (by omega) (by omega) ?_
  refine nm_r (te_m12 R) (nm_r (nI_add (12 * R) 12) (nm_r (nI_add (12 * R) C) (br_f (by decide) (br_f (by decide) (br_f (by decide) (br_f (by decide) (br_f (by decide) (br_f (by decide) (br_f (by decide) (br_f (by decide) (br_f (by decide) (br_f (by decide) (br_f (by decide) (br_f (by decide) (br_f (by decide) (br_f (by decide) (br_f (by decide) (br_t rfl ?_))))))))))))))))))
  refine te_xtakeOutRows rfl hT hRB hB (by omega) (by omega) ?_
  exact h
theorem te_xr77o (hR : R < 6) (hC : C < 12) (hP : P < 8) (hTB : T ≤ B) (hB : B < 6) (hK : K ≤ 8) (hp : p ≤ 99) (hq : q ≤ 99) (e0 : nu 0 = nI p) (e1 : nu 1 = nI q) (hO : R < T ∨ B < R) : te_To (fun t => wpX_runPlain t ((nI R), (nI C), (nI P), (nI T), (nI B), ins, wr, ot, wt, (nI SR), (nI SC), (nI SP), (nI AR), (nI AC), (nI AO), (nI AB), (nI K), 0, 0, 0, se, ce, ad, sh, kp, nu) 77) ((nI R), (nI C), (nI P), (nI T), (nI B), ins, wr, ot, 0, (nI SR), (nI SC), (nI SP), (nI AR), (nI AC), (nI AO), (nI AB), (nI K), 0, 0, 0, se, ce, ad, sh, kp, nu) := by
  intro post h
  obtain ⟨hn1, hn9⟩ := te_n1 p
  have hn := hn9 hp
  unfold wpX_runPlain
  refine te_xgreat p 1 e0 rfl (by omega) (by omega) ?_
  refine nm_r (te_m12 R) (nm_r (nI_add (12 * R) 12) (nm_r (nI_add (12 * R) C) (br_f (by decide) (br_f (by decide) (br_f (by decide) (br_f (by decide) (br_f (by decide) (br_f (by decide) (br_f (by decide) (br_f (by decide) (br_f (by decide) (br_f (by decide) (br_f (by decide) (br_f (by decide) (br_f (by decide) (br_f (by decide) (br_f (by decide) (br_t rfl ?_))))))))))))))))))
  refine te_xtakeOutRowsO hO hR (by omega) hB ?_
  exact h
theorem te_xr83 (hR : R < 6) (hC : C < 12) (hP : P < 8) (hTB : T ≤ B) (hB : B < 6) (hK : K ≤ 8) (hp : p ≤ 99) (hq : q ≤ 99) (e0 : nu 0 = nI p) (e1 : nu 1 = nI q) : te_To (fun t => wpX_runPlain t ((nI R), (nI C), (nI P), (nI T), (nI B), ins, wr, ot, wt, (nI SR), (nI SC), (nI SP), (nI AR), (nI AC), (nI AO), (nI AB), (nI K), 0, 0, 0, se, ce, ad, sh, kp, nu) 83) ((nI R), (nI C), (nI P), (nI T), (nI B), ins, wr, ot, 0, (nI SR), (nI SC), (nI SP), (nI AR), (nI AC), (nI AO), (nI AB), (nI (te_sn (te_q ot T) T B (te_max p 1) K ce kp).1), 0, 0, 0, se, ((te_sn (te_q ot T) T B (te_max p 1) K ce kp).2.1), ad, sh, ((te_sn (te_q ot T) T B (te_max p 1) K ce kp).2.2), nu) := by
  intro post h
  obtain ⟨hn1, hn9⟩ := te_n1 p
  have hn := hn9 hp
  unfold wpX_runPlain
  refine te_xgreat p 1 e0 rfl (by omega) (by omega) ?_
  refine nm_r (te_m12 R) (nm_r (nI_add (12 * R) 12) (nm_r (nI_add (12 * R) C) (br_f (by decide) (br_f (by decide) (br_f (by decide) (br_f (by decide) (br_f (by decide) (br_f (by decide) (br_f (by decide) (br_f (by decide) (br_f (by decide) (br_f (by decide) (br_f (by decide) (br_f (by decide) (br_f (by decide) (br_f (by decide) (br_f (by decide) (br_f (by decide) (br_f (by decide) (br_f (by decide) (br_f (by decide) (br_f (by decide) (br_f (by decide) (br_t rfl ?_))))))))))))))))))))))))
  refine te_xscrollUp (te_max p 1) rfl hTB hB (by omega) hK ?_
  exact h
theorem te_xr84 (hR : R < 6) (hC : C < 12) (hP : P < 8) (hTB : T ≤ B) (hB : B < 6) (hK : K ≤ 8) (hp : p ≤ 99) (hq : q ≤ 99) (e0 : nu 0 = nI p) (e1 : nu 1 = nI q) : te_To (fun t => wpX_runPlain t ((nI R), (nI C), (nI P), (nI T), (nI B), ins, wr, ot, wt, (nI SR), (nI SC), (nI SP), (nI AR), (nI AC), (nI AO), (nI AB), (nI K), 0, 0, 0, se, ce, ad, sh, kp, nu) 84) ((nI R), (nI C), (nI P), (nI T), (nI B), ins, wr, ot, 0, (nI SR), (nI SC), (nI SP), (nI AR), (nI AC), (nI AO), (nI AB), (nI K), 0, 0, 0, se, (te_mo ce (12 * T) (12 * (B + 1)) (12 * (te_max p 1))), ad, sh, kp, nu) := by
  intro post h
  obtain ⟨hn1, hn9⟩ := te_n1 p
  have hn := hn9 hp
  unfold wpX_runPlain
  refine te_xgreat p 1 e0 rfl (by omega) (by omega) ?_
  refine nm_r (te_m12 R) (nm_r (nI_add (12 * R) 12) (nm_r (nI_add (12 * R) C) (br_f (by decide) (br_f (by decide) (br_f (by decide) (br_f (by decide) (br_f (by decide) (br_f (by decide) (br_f (by decide) (br_f (by decide) (br_f (by decide) (br_f (by decide) (br_f (by decide) (br_f (by decide) (br_f (by decide) (br_f (by decide) (br_f (by decide) (br_f (by decide) (br_f (by decide) (br_f (by decide) (br_f (by decide) (br_f (by decide) (br_f (by decide) (br_f (by decide) (br_t rfl ?_)))))))))))))))))))))))))
  refine te_xscrollDown (te_max p 1) rfl hTB hB (by omega) (by omega) ?_
  exact h
theorem te_xsr {post : SX → Prop} {st ma mk : Int32} (hR : R < 6) (hC : C < 12) (hP : P < 8) (hTB : T ≤ B) (hB : B < 6) (hK : K ≤ 8) (hp : p ≤ 99) (hq : q ≤ 99) (e0 : nu 0 = nI p) (e1 : nu 1 = nI q) (h1 : (te_max p 1) < te_q6 q) (h6 : te_q6 q ≤ 6) (h : post (0, 0, (nI P), (nI ((te_max p 1) - 1)), (nI (te_q6 q - 1)), ins, wr, ot, wt, (nI SR), (nI SC), (nI SP), (nI AR), (nI AC), (nI AO), (nI AB), (nI K), st, ma, mk, se, ce, ad, sh, kp, nu)) : wpX_setRegion post ((nI R), (nI C), (nI P), (nI T), (nI B), ins, wr, ot, wt, (nI SR), (nI SC), (nI SP), (nI AR), (nI AC), (nI AO), (nI AB), (nI K), st, ma, mk, se, ce, ad, sh, kp, nu) := by
  obtain ⟨hn1, hn9⟩ := te_n1 p
  have hn := hn9 hp
  unfold wpX_setRegion
  refine te_xgreat p 1 e0 rfl (by omega) (by omega) ?_
  have G : wX_setRegion_31 post (nI (te_max p 1)) (nI (te_q6 q)) (nI R) (nI C) (nI P) (nI T) (nI B) ins wr ot wt (nI SR) (nI SC) (nI SP) (nI AR) (nI AC) (nI AO) (nI AB) (nI K) st ma mk se ce ad sh kp nu :=
    br_f (nI_ge h1 (by omega)) (br_f (nI_nlt (b := te_q6 q) (a := 6) h6 (by omega)) (nm_r (te_ns1 hn1) (nm_r (te_ns1 (by omega)) h)))
  rw [e1]
  unfold te_q6 at G
  by_cases h0 : q = 0
  · rw [if_pos h0] at G
    exact br_t (by rw [h0, nI_0]) G
  · rw [if_neg h0] at G
    exact br_f (nI_ne0 (by omega) (by omega)) G
theorem te_xsrO {post : SX → Prop} {st ma mk : Int32} (hR : R < 6) (hC : C < 12) (hP : P < 8) (hTB : T ≤ B) (hB : B < 6) (hK : K ≤ 8) (hp : p ≤ 99) (hq : q ≤ 99) (e0 : nu 0 = nI p) (e1 : nu 1 = nI q) (hO : te_q6 q ≤ (te_max p 1) ∨ 6 < te_q6 q) (h : post ((nI R), (nI C), (nI P), (nI T), (nI B), ins, wr, ot, wt, (nI SR), (nI SC), (nI SP), (nI AR), (nI AC), (nI AO), (nI AB), (nI K), st, ma, mk, se, ce, ad, sh, kp, nu)) : wpX_setRegion post ((nI R), (nI C), (nI P), (nI T), (nI B), ins, wr, ot, wt, (nI SR), (nI SC), (nI SP), (nI AR), (nI AC), (nI AO), (nI AB), (nI K), st, ma, mk, se, ce, ad, sh, kp, nu) := by
  obtain ⟨hn1, hn9⟩ := te_n1 p
  have hn := hn9 hp
  have hq6 : te_q6 q ≤ 99 := by unfold te_q6; split <;> omega
  unfold wpX_setRegion
  refine te_xgreat p 1 e0 rfl (by omega) (by omega) ?_
  have G : wX_setRegion_31 post (nI (te_max p 1)) (nI (te_q6 q)) (nI R) (nI C) (nI P) (nI T) (nI B) ins wr ot wt (nI SR) (nI SC) (nI SP) (nI AR) (nI AC) (nI AO) (nI AB) (nI K) st ma mk se ce ad sh kp nu := by
    by_cases h1 : te_q6 q ≤ (te_max p 1)
    · exact br_t (nI_le h1 (by omega)) h
    · exact br_f (nI_ge (by omega) (by omega)) (br_t (nI_lt (a := 6) (by omega) (by omega)) h)
  rw [e1]
  unfold te_q6 at G
  by_cases h0 : q = 0
  · rw [if_pos h0] at G
    exact br_t (by rw [h0, nI_0]) G
  · rw [if_neg h0] at G
    exact br_f (nI_ne0 (by omega) (by omega)) G
theorem te_xr114 (hR : R < 6) (hC : C < 12) (hP : P < 8) (hTB : T ≤ B) (hB : B < 6) (hK : K ≤ 8) (hp : p ≤ 99) (hq : q ≤ 99) (e0 : nu 0 = nI p) (e1 : nu 1 = nI q) (h1 : (te_max p 1) < te_q6 q) (h6 : te_q6 q ≤ 6) : te_To (fun t => wpX_runPlain t ((nI R), (nI C), (nI P), (nI T), (nI B), ins, wr, ot, wt, (nI SR), (nI SC), (nI SP), (nI AR), (nI AC), (nI AO), (nI AB), (nI K), 0, 0, 0, se, ce, ad, sh, kp, nu) 114) (0, 0, (nI P), (nI ((te_max p 1) - 1)), (nI (te_q6 q - 1)), ins, wr, ot, 0, (nI SR), (nI SC), (nI SP), (nI AR), (nI AC), (nI AO), (nI AB), (nI K), 0, 0, 0, se, ce, ad, sh, kp, nu) := by
  intro post h
  obtain ⟨hn1, hn9⟩ := te_n1 p
  have hn := hn9 hp
  unfold wpX_runPlain
  refine te_xgreat p 1 e0 rfl (by omega) (by omega) ?_
  refine nm_r (te_m12 R) (nm_r (nI_add (12 * R) 12) (nm_r (nI_add (12 * R) C) (br_f (by decide) (br_f (by decide) (br_f (by decide) (br_f (by decide) (br_f (by decide) (br_f (by decide) (br_f (by decide) (br_f (by decide) (br_f (by decide) (br_f (by decide) (br_f (by decide) (br_f (by decide) (br_f (by decide) (br_f (by decide) (br_f (by decide) (br_f (by decide) (br_f (by decide) (br_f (by decide) (br_f (by decide) (br_f (by decide) (br_f (by decide) (br_f (by decide) (br_f (by decide) (br_f (by decide) (br_f (by decide) (br_f (by decide) (br_f (by decide) (br_f (by decide) (br_f (by decide) (br_f (by decide) (br_f (by decide) (br_f (by decide) (br_f (by decide) (br_f (by decide) (br_f (by decide) (br_f (by decide) (br_f (by decide) (br_f (by decide) (br_f (by decide) (br_f (by decide) (br_f (by decide) (br_f (by decide) (br_f (by decide) (br_f (by decide) (br_f (by decide) (br_f (by decide) (br_f (by decide) (br_f (by decide) (br_f (by decide) (br_f (by decide) (br_f (by decide) (br_f (by decide) (br_t rfl ?_)))))))))))))))))))))))))))))))))))))))))))))))))))))))
  refine te_xsr hR hC hP hTB hB hK hp hq e0 e1 h1 h6 ?_
  exact h
theorem te_xr114o (hR : R < 6) (hC : C < 12) (hP : P < 8) (hTB : T ≤ B) (hB : B < 6) (hK : K ≤ 8) (hp : p ≤ 99) (hq : q ≤ 99) (e0 : nu 0 = nI p) (e1 : nu 1 = nI q) (hO : te_q6 q ≤ (te_max p 1) ∨ 6 < te_q6 q) : te_To (fun t => wpX_runPlain t ((nI R), (nI C), (nI P), (nI T), (nI B), ins, wr, ot, wt, (nI SR), (nI SC), (nI SP), (nI AR), (nI AC), (nI AO), (nI AB), (nI K), 0, 0, 0, se, ce, ad, sh, kp, nu) 114) ((nI R), (nI C), (nI P), (nI T), (nI B), ins, wr, ot, 0, (nI SR), (nI SC), (nI SP), (nI AR), (nI AC), (nI AO), (nI AB), (nI K), 0, 0, 0, se, ce, ad, sh, kp, nu) := by
  intro post h
  obtain ⟨hn1, hn9⟩ := te_n1 p
  have hn := hn9 hp
  unfold wpX_runPlain
  refine te_xgreat p 1 e0 rfl (by omega) (by omega) ?_
  refine nm_r (te_m12 R) (nm_r (nI_add (12 * R) 12) (nm_r (nI_add (12 * R) C) (br_f (by decide) (br_f (by decide) (br_f (by decide) (br_f (by decide) (br_f (by decide) (br_f (by decide) (br_f (by decide) (br_f (by decide) (br_f (by decide) (br_f (by decide) (br_f (by decide) (br_f (by decide) (br_f (by decide) (br_f (by decide) (br_f (by decide) (br_f (by decide) (br_f (by decide) (br_f (by decide) (br_f (by decide) (br_f (by decide) (br_f (by decide) (br_f (by decide) (br_f (by decide) (br_f (by decide) (br_f (by decide) (br_f (by decide) (br_f (by decide) (br_f (by decide) (br_f (by decide) (br_f (by decide) (br_f (by decide) (br_f (by decide) (br_f (by decide) (br_f (by decide) (br_f (by decide) (br_f (by decide) (br_f (by decide) (br_f (by decide) (br_f (by decide) (br_f (by decide) (br_f (by decide) (br_f (by decide) (br_f (by decide) (br_f (by decide) (br_f (by decide) (br_f (by decide) (br_f (by decide) (br_f (by decide) (br_f (by decide) (br_f (by decide) (br_f (by decide) (br_f (by decide) (br_t rfl ?_)))))))))))))))))))))))))))))))))))))))))))))))))))))))
  refine te_xsrO hR hC hP hTB hB hK hp hq e0 e1 hO ?_
  exact h
theorem te_xr104 (hR : R < 6) (hC : C < 12) (hP : P < 8) (hTB : T ≤ B) (hB : B < 6) (hK : K ≤ 8) (hp : p ≤ 99) (hq : q ≤ 99) (e0 : nu 0 = nI p) (e1 : nu 1 = nI q) (h4 : p = 4) : te_To (fun t => wpX_runPlain t ((nI R), (nI C), (nI P), (nI T), (nI B), ins, wr, ot, wt, (nI SR), (nI SC), (nI SP), (nI AR), (nI AC), (nI AO), (nI AB), (nI K), 0, 0, 0, se, ce, ad, sh, kp, nu) 104) ((nI R), (nI C), (nI P), (nI T), (nI B), 1, wr, ot, wt, (nI SR), (nI SC), (nI SP), (nI AR), (nI AC), (nI AO), (nI AB), (nI K), 0, 0, 0, se, ce, ad, sh, kp, nu) := by
  intro post h
  obtain ⟨hn1, hn9⟩ := te_n1 p
  have hn := hn9 hp
  unfold wpX_runPlain
  refine te_xgreat p 1 e0 rfl (by omega) (by omega) ?_
  refine nm_r (te_m12 R) (nm_r (nI_add (12 * R) 12) (nm_r (nI_add (12 * R) C) (br_f (by decide) (br_f (by decide) (br_f (by decide) (br_f (by decide) (br_f (by decide) (br_f (by decide) (br_f (by decide) (br_f (by decide) (br_f (by decide) (br_f (by decide) (br_f (by decide) (br_f (by decide) (br_f (by decide) (br_f (by decide) (br_f (by decide) (br_f (by decide) (br_f (by decide) (br_f (by decide) (br_f (by decide) (br_f (by decide) (br_f (by decide) (br_f (by decide) (br_f (by decide) (br_f (by decide) (br_f (by decide) (br_f (by decide) (br_f (by decide) (br_f (by decide) (br_f (by decide) (br_f (by decide) (br_f (by decide) (br_f (by decide) (br_f (by decide) (br_f (by decide) (br_f (by decide) (br_f (by decide) (br_f (by decide) (br_f (by decide) (br_f (by decide) (br_f (by decide) (br_f (by decide) (br_f (by decide) (br_t rfl ?_)))))))))))))))))))))))))))))))))))))))))))))
  unfold wpX_switchInsert
  refine br_t (e0.trans (congrArg nI h4)) ⟨te_nb te_1, te_fb te_1, ?_⟩
  exact h
theorem te_xr104o (hR : R < 6) (hC : C < 12) (hP : P < 8) (hTB : T ≤ B) (hB : B < 6) (hK : K ≤ 8) (hp : p ≤ 99) (hq : q ≤ 99) (e0 : nu 0 = nI p) (e1 : nu 1 = nI q) (h4 : p ≠ 4) : te_To (fun t => wpX_runPlain t ((nI R), (nI C), (nI P), (nI T), (nI B), ins, wr, ot, wt, (nI SR), (nI SC), (nI SP), (nI AR), (nI AC), (nI AO), (nI AB), (nI K), 0, 0, 0, se, ce, ad, sh, kp, nu) 104) ((nI R), (nI C), (nI P), (nI T), (nI B), ins, wr, ot, wt, (nI SR), (nI SC), (nI SP), (nI AR), (nI AC), (nI AO), (nI AB), (nI K), 0, 0, 0, se, ce, ad, sh, kp, nu) := by
  intro post h
  obtain ⟨hn1, hn9⟩ := te_n1 p
  have hn := hn9 hp
  unfold wpX_runPlain
  refine te_xgreat p 1 e0 rfl (by omega) (by omega) ?_
  refine nm_r (te_m12 R) (nm_r (nI_add (12 * R) 12) (nm_r (nI_add (12 * R) C) (br_f (by decide) (br_f (by decide) (br_f (by decide) (br_f (by decide) (br_f (by decide) (br_f (by decide) (br_f (by decide) (br_f (by decide) (br_f (by decide) (br_f (by decide) (br_f (by decide) (br_f (by decide) (br_f (by decide) (br_f (by decide) (br_f (by decide) (br_f (by decide) (br_f (by decide) (br_f (by decide) (br_f (by decide) (br_f (by decide) (br_f (by decide) (br_f (by decide) (br_f (by decide) (br_f (by decide) (br_f (by decide) (br_f (by decide) (br_f (by decide) (br_f (by decide) (br_f (by decide) (br_f (by decide) (br_f (by decide) (br_f (by decide) (br_f (by decide) (br_f (by decide) (br_f (by decide) (br_f (by decide) (br_f (by decide) (br_f (by decide) (br_f (by decide) (br_f (by decide) (br_f (by decide) (br_f (by decide) (br_t rfl ?_)))))))))))))))))))))))))))))))))))))))))))))
  unfold wpX_switchInsert
  refine br_f (fun z => te_ne (b := 4) h4 (by omega) (by omega) (e0.symm.trans z)) ?_
  exact h
theorem te_xr108 (hR : R < 6) (hC : C < 12) (hP : P < 8) (hTB : T ≤ B) (hB : B < 6) (hK : K ≤ 8) (hp : p ≤ 99) (hq : q ≤ 99) (e0 : nu 0 = nI p) (e1 : nu 1 = nI q) (h4 : p = 4) : te_To (fun t => wpX_runPlain t ((nI R), (nI C), (nI P), (nI T), (nI B), ins, wr, ot, wt, (nI SR), (nI SC), (nI SP), (nI AR), (nI AC), (nI AO), (nI AB), (nI K), 0, 0, 0, se, ce, ad, sh, kp, nu) 108) ((nI R), (nI C), (nI P), (nI T), (nI B), 0, wr, ot, wt, (nI SR), (nI SC), (nI SP), (nI AR), (nI AC), (nI AO), (nI AB), (nI K), 0, 0, 0, se, ce, ad, sh, kp, nu) := by
  intro post h
  obtain ⟨hn1, hn9⟩ := te_n1 p
  have hn := hn9 hp
  unfold wpX_runPlain
  refine te_xgreat p 1 e0 rfl (by omega) (by omega) ?_
  refine nm_r (te_m12 R) (nm_r (nI_add (12 * R) 12) (nm_r (nI_add (12 * R) C) (br_f (by decide) (br_f (by decide) (br_f (by decide) (br_f (by decide) (br_f (by decide) (br_f (by decide) (br_f (by decide) (br_f (by decide) (br_f (by decide) (br_f (by decide) (br_f (by decide) (br_f (by decide) (br_f (by decide) (br_f (by decide) (br_f (by decide) (br_f (by decide) (br_f (by decide) (br_f (by decide) (br_f (by decide) (br_f (by decide) (br_f (by decide) (br_f (by decide) (br_f (by decide) (br_f (by decide) (br_f (by decide) (br_f (by decide) (br_f (by decide) (br_f (by decide) (br_f (by decide) (br_f (by decide) (br_f (by decide) (br_f (by decide) (br_f (by decide) (br_f (by decide) (br_f (by decide) (br_f (by decide) (br_f (by decide) (br_f (by decide) (br_f (by decide) (br_f (by decide) (br_f (by decide) (br_f (by decide) (br_f (by decide) (br_f (by decide) (br_f (by decide) (br_f (by decide) (br_t rfl ?_)))))))))))))))))))))))))))))))))))))))))))))))))
  unfold wpX_switchInsert
  refine br_t (e0.trans (congrArg nI h4)) ⟨te_nb te_0, te_fb te_0, ?_⟩
  exact h
theorem te_xr108o (hR : R < 6) (hC : C < 12) (hP : P < 8) (hTB : T ≤ B) (hB : B < 6) (hK : K ≤ 8) (hp : p ≤ 99) (hq : q ≤ 99) (e0 : nu 0 = nI p) (e1 : nu 1 = nI q) (h4 : p ≠ 4) : te_To (fun t => wpX_runPlain t ((nI R), (nI C), (nI P), (nI T), (nI B), ins, wr, ot, wt, (nI SR), (nI SC), (nI SP), (nI AR), (nI AC), (nI AO), (nI AB), (nI K), 0, 0, 0, se, ce, ad, sh, kp, nu) 108) ((nI R), (nI C), (nI P), (nI T), (nI B), ins, wr, ot, wt, (nI SR), (nI SC), (nI SP), (nI AR), (nI AC), (nI AO), (nI AB), (nI K), 0, 0, 0, se, ce, ad, sh, kp, nu) := by
  intro post h
  obtain ⟨hn1, hn9⟩ := te_n1 p
  have hn := hn9 hp
  unfold wpX_runPlain
  refine te_xgreat p 1 e0 rfl (by omega) (by omega) ?_
  refine nm_r (te_m12 R) (nm_r (nI_add (12 * R) 12) (nm_r (nI_add (12 * R) C) (br_f (by decide) (br_f (by decide) (br_f (by decide) (br_f (by decide) (br_f (by decide) (br_f (by decide) (br_f (by decide) (br_f (by decide) (br_f (by decide) (br_f (by decide) (br_f (by decide) (br_f (by decide) (br_f (by decide) (br_f (by decide) (br_f (by decide) (br_f (by decide) (br_f (by decide) (br_f (by decide) (br_f (by decide) (br_f (by decide) (br_f (by decide) (br_f (by decide) (br_f (by decide) (br_f (by decide) (br_f (by decide) (br_f (by decide) (br_f (by decide) (br_f (by decide) (br_f (by decide) (br_f (by decide) (br_f (by decide) (br_f (by decide) (br_f (by decide) (br_f (by decide) (br_f (by decide) (br_f (by decide) (br_f (by decide) (br_f (by decide) (br_f (by decide) (br_f (by decide) (br_f (by decide) (br_f (by decide) (br_f (by decide) (br_f (by decide) (br_f (by decide) (br_f (by decide) (br_t rfl ?_)))))))))))))))))))))))))))))))))))))))))))))))))
  unfold wpX_switchInsert
  refine br_f (fun z => te_ne (b := 4) h4 (by omega) (by omega) (e0.symm.trans z)) ?_
  exact h
theorem te_xr109 {E : Nat} {v : Nat → Nat} (hR : R < 6) (hC : C < 12) (hP : P < 8) (hTB : T ≤ B) (hB : B < 6) (hK : K ≤ 8) (hp : p ≤ 99) (hq : q ≤ 99) (e0 : nu 0 = nI p) (e1 : nu 1 = nI q) (hE : E ≤ 4) (hv : ∀ j, j < 4 → v j ≤ 99 ∧ nu j = nI (v j)) : te_To (fun t => wpX_runPlain t ((nI R), (nI C), (nI P), (nI T), (nI B), ins, wr, ot, wt, (nI SR), (nI SC), (nI SP), (nI AR), (nI AC), (nI AO), (nI AB), (nI K), 0, 0, 0, (nI E), ce, ad, sh, kp, nu) 109) ((nI R), (nI C), (nI (te_pp v (te_min (E + 1) 4) 0 P)), (nI T), (nI B), ins, wr, ot, wt, (nI SR), (nI SC), (nI SP), (nI AR), (nI AC), (nI AO), (nI AB), (nI K), 0, 0, 0, (nI E), ce, ad, sh, kp, nu) := by
  intro post h
  unfold wpX_runPlain
  refine te_xgreat p 1 e0 rfl (by omega) (by omega) ?_
  refine nm_r (te_m12 R) (nm_r (nI_add (12 * R) 12) (nm_r (nI_add (12 * R) C) (br_f (by decide) (br_f (by decide) (br_f (by decide) (br_f (by decide) (br_f (by decide) (br_f (by decide) (br_f (by decide) (br_f (by decide) (br_f (by decide) (br_f (by decide) (br_f (by decide) (br_f (by decide) (br_f (by decide) (br_f (by decide) (br_f (by decide) (br_f (by decide) (br_f (by decide) (br_f (by decide) (br_f (by decide) (br_f (by decide) (br_f (by decide) (br_f (by decide) (br_f (by decide) (br_f (by decide) (br_f (by decide) (br_f (by decide) (br_f (by decide) (br_f (by decide) (br_f (by decide) (br_f (by decide) (br_f (by decide) (br_f (by decide) (br_f (by decide) (br_f (by decide) (br_f (by decide) (br_f (by decide) (br_f (by decide) (br_f (by decide) (br_f (by decide) (br_f (by decide) (br_f (by decide) (br_f (by decide) (br_f (by decide) (br_f (by decide) (br_f (by decide) (br_f (by decide) (br_f (by decide) (br_t rfl ?_))))))))))))))))))))))))))))))))))))))))))))))))))
  refine te_xchangePen hE hP hv ?_
  exact h
theorem te_xrN {x : Int32} (hR : R < 6) (hC : C < 12) (hP : P < 8) (hTB : T ≤ B) (hB : B < 6) (hK : K ≤ 8) (hp : p ≤ 99) (hq : q ≤ 99) (e0 : nu 0 = nI p) (e1 : nu 1 = nI q) (h64 : ¬ x = 64) (h65 : ¬ x = 65) (h66 : ¬ x = 66) (h67 : ¬ x = 67) (h68 : ¬ x = 68) (h71 : ¬ x = 71) (h72 : ¬ x = 72) (h74 : ¬ x = 74) (h75 : ¬ x = 75) (h76 : ¬ x = 76) (h77 : ¬ x = 77) (h80 : ¬ x = 80) (h83 : ¬ x = 83) (h84 : ¬ x = 84) (h88 : ¬ x = 88) (h100 : ¬ x = 100) (h104 : ¬ x = 104) (h108 : ¬ x = 108) (h109 : ¬ x = 109) (h114 : ¬ x = 114) : te_To (fun t => wpX_runPlain t ((nI R), (nI C), (nI P), (nI T), (nI B), ins, wr, ot, wt, (nI SR), (nI SC), (nI SP), (nI AR), (nI AC), (nI AO), (nI AB), (nI K), 0, 0, 0, se, ce, ad, sh, kp, nu) x) ((nI R), (nI C), (nI P), (nI T), (nI B), ins, wr, ot, wt, (nI SR), (nI SC), (nI SP), (nI AR), (nI AC), (nI AO), (nI AB), (nI K), 0, 0, 0, se, ce, ad, sh, kp, nu) := by
  intro post h
  unfold wpX_runPlain
  refine te_xgreat p 1 e0 rfl (by omega) (by omega) ?_
  refine nm_r (te_m12 R) (nm_r (nI_add (12 * R) 12) (nm_r (nI_add (12 * R) C) ?_))
  exact br_c (fun _ => h) (fun _ => br_c (fun _ => h) (fun _ => br_f h64 (br_f h65 (br_f h66 (br_f h67 (br_f h68 (br_c (fun _ => h) (fun _ => br_c (fun _ => h) (fun _ => br_f h71 (br_f h72 (br_c (fun _ => h) (fun _ => br_f h74 (br_f h75 (br_f h76 (br_f h77 (br_c (fun _ => h) (fun _ => br_c (fun _ => h) (fun _ => br_f h80 (br_c (fun _ => h) (fun _ => br_c (fun _ => h) (fun _ => br_f h83 (br_f h84 (br_c (fun _ => h) (fun _ => br_c (fun _ => h) (fun _ => br_c (fun _ => h) (fun _ => br_f h88 (br_c (fun _ => h) (fun _ => br_c (fun _ => h) (fun _ => br_c (fun _ => h) (fun _ => br_c (fun _ => h) (fun _ => br_c (fun _ => h) (fun _ => br_c (fun _ => h) (fun _ => br_c (fun _ => h) (fun _ => br_c (fun _ => h) (fun _ => br_c (fun _ => h) (fun _ => br_c (fun _ => h) (fun _ => br_c (fun _ => h) (fun _ => br_f h100 (br_c (fun _ => h) (fun _ => br_c (fun _ => h) (fun _ => br_c (fun _ => h) (fun _ => br_f h104 (br_c (fun _ => h) (fun _ => br_c (fun _ => h) (fun _ => br_c (fun _ => h) (fun _ => br_f h108 (br_f h109 (br_c (fun _ => h) (fun _ => br_c (fun _ => h) (fun _ => br_c (fun _ => h) (fun _ => br_c (fun _ => h) (fun _ => br_f h114 (trivial)))))))))))))))))))))))))))))))))))))))))))))))))))))
end
end
section
/-! the reference: each last byte -/
section
variable {R C P T B SR SC SP AR AC AO AB K : Nat} {ins wr ot wt bg mn : Int32} {ce aq sh kp nu : Nat → Int32} {p q : Nat}
theorem te_yr65 (hR : R < 6) (hC : C < 12) (hP : P < 8) (hTB : T ≤ B) (hB : B < 6) (hK : K ≤ 8) (hp : p ≤ 99) (hq : q ≤ 99) (hw : te_b01 wt) (hc : te_rg ce) (e0 : nu 0 = nI p) (e1 : nu 1 = nI q) : te_To (fun t => wpY_last t ((nI R), (nI C), (nI P), (nI T), (nI B), ins, wr, ot, wt, (nI SR), (nI SC), (nI SP), (nI AR), (nI AC), (nI AO), (nI AB), (nI K), 0, bg, 0, mn, ce, sh, aq, kp, nu) 65) ((nI (te_dec R (te_max p 1) (te_L65 R T))), (nI C), (nI P), (nI T), (nI B), ins, wr, ot, 0, (nI SR), (nI SC), (nI SP), (nI AR), (nI AC), (nI AO), (nI AB), (nI K), 0, bg, 0, mn, ce, sh, aq, kp, nu) := by
  obtain ⟨hn1, hn9⟩ := te_n1 p
  have hn := hn9 hp
  refine te_ylast (by decide) (by decide) (by decide) (by omega) e0 e1 (te_yk65 hw (by omega) ?_)
  intro post h
  unfold wpY_move
  have G : ∀ L : Nat, L < 6 → te_L65 R T = L → wY_move_25 post (nI (te_max p 1)) (nI L) (nI R) (nI C) (nI P) (nI T) (nI B) ins wr ot 0 (nI SR) (nI SC) (nI SP) (nI AR) (nI AC) (nI AO) (nI AB) (nI K) 0 bg 0 mn ce sh aq kp nu := by
    intro L hL e
    rw [e] at h
    unfold te_dec at h
    by_cases hc : L + (te_max p 1) ≤ R
    · refine br_t ((te_leSub (by omega) (by omega) (by omega)).mpr hc) (nm_r (te_nsub (by omega)) ?_)
      by_cases hd : R ≤ L + (te_max p 1)
      · rw [if_pos hd] at h
        rw [show R - (te_max p 1) = L from by omega]
        exact h
      · rw [if_neg hd] at h
        exact h
    · rw [if_pos (by omega)] at h
      exact br_f (fun z => hc ((te_leSub (by omega) (by omega) (by omega)).mp z)) h
  by_cases hT : R < T
  · refine br_t rfl (br_t (nI_lt hT (by omega)) ?_)
    exact G 0 (by omega) (if_pos hT)
  · refine br_t rfl (br_f (nI_nlt (by omega) (by omega)) ?_)
    exact G T (by omega) (if_neg hT)
theorem te_yr66 (hR : R < 6) (hC : C < 12) (hP : P < 8) (hTB : T ≤ B) (hB : B < 6) (hK : K ≤ 8) (hp : p ≤ 99) (hq : q ≤ 99) (hw : te_b01 wt) (hc : te_rg ce) (e0 : nu 0 = nI p) (e1 : nu 1 = nI q) : te_To (fun t => wpY_last t ((nI R), (nI C), (nI P), (nI T), (nI B), ins, wr, ot, wt, (nI SR), (nI SC), (nI SP), (nI AR), (nI AC), (nI AO), (nI AB), (nI K), 0, bg, 0, mn, ce, sh, aq, kp, nu) 66) ((nI (te_min (R + (te_max p 1)) (te_L66 R B))), (nI C), (nI P), (nI T), (nI B), ins, wr, ot, 0, (nI SR), (nI SC), (nI SP), (nI AR), (nI AC), (nI AO), (nI AB), (nI K), 0, bg, 0, mn, ce, sh, aq, kp, nu) := by
  obtain ⟨hn1, hn9⟩ := te_n1 p
  have hn := hn9 hp
  refine te_ylast (by decide) (by decide) (by decide) (by omega) e0 e1 (te_yk66 hw (by omega) ?_)
  intro post h
  unfold wpY_move
  by_cases hT : R ≤ B
  · have e : te_L66 R B = B := if_pos hT
    rw [e] at h
    refine br_f (by decide) (br_t rfl (br_f (nI_nlt (by omega) (by omega)) ?_))
    unfold wY_move_89
    refine te_yless (R + (te_max p 1)) B (nI_add _ _) rfl (by omega) (by omega) ?_
    exact h
  · have e : te_L66 R B = 5 := if_neg hT
    rw [e] at h
    refine br_f (by decide) (br_t rfl (br_t (nI_lt (by omega) (by omega)) ?_))
    unfold wY_move_89
    refine te_yless (R + (te_max p 1)) 5 (nI_add _ _) rfl (by omega) (by omega) ?_
    exact h
theorem te_yr67 (hR : R < 6) (hC : C < 12) (hP : P < 8) (hTB : T ≤ B) (hB : B < 6) (hK : K ≤ 8) (hp : p ≤ 99) (hq : q ≤ 99) (hw : te_b01 wt) (hc : te_rg ce) (e0 : nu 0 = nI p) (e1 : nu 1 = nI q) : te_To (fun t => wpY_last t ((nI R), (nI C), (nI P), (nI T), (nI B), ins, wr, ot, wt, (nI SR), (nI SC), (nI SP), (nI AR), (nI AC), (nI AO), (nI AB), (nI K), 0, bg, 0, mn, ce, sh, aq, kp, nu) 67) ((nI R), (nI (te_min (C + (te_max p 1)) 11)), (nI P), (nI T), (nI B), ins, wr, ot, 0, (nI SR), (nI SC), (nI SP), (nI AR), (nI AC), (nI AO), (nI AB), (nI K), 0, bg, 0, mn, ce, sh, aq, kp, nu) := by
  obtain ⟨hn1, hn9⟩ := te_n1 p
  have hn := hn9 hp
  refine te_ylast (by decide) (by decide) (by decide) (by omega) e0 e1 (te_yk67 hw (by omega) ?_)
  intro post h
  unfold wpY_move
  refine br_f (by decide) (br_f (by decide) (br_t rfl ?_))
  refine te_yless (C + (te_max p 1)) 11 (nI_add _ _) rfl (by omega) (by omega) ?_
  exact h
theorem te_yr68 (hR : R < 6) (hC : C < 12) (hP : P < 8) (hTB : T ≤ B) (hB : B < 6) (hK : K ≤ 8) (hp : p ≤ 99) (hq : q ≤ 99) (hw : te_b01 wt) (hc : te_rg ce) (e0 : nu 0 = nI p) (e1 : nu 1 = nI q) : te_To (fun t => wpY_last t ((nI R), (nI C), (nI P), (nI T), (nI B), ins, wr, ot, wt, (nI SR), (nI SC), (nI SP), (nI AR), (nI AC), (nI AO), (nI AB), (nI K), 0, bg, 0, mn, ce, sh, aq, kp, nu) 68) ((nI R), (nI (te_dec C (te_max p 1) 0)), (nI P), (nI T), (nI B), ins, wr, ot, 0, (nI SR), (nI SC), (nI SP), (nI AR), (nI AC), (nI AO), (nI AB), (nI K), 0, bg, 0, mn, ce, sh, aq, kp, nu) := by
  obtain ⟨hn1, hn9⟩ := te_n1 p
  have hn := hn9 hp
  refine te_ylast (by decide) (by decide) (by decide) (by omega) e0 e1 (te_yk68 hw (by omega) ?_)
  intro post h
  unfold wpY_move
  refine br_f (by decide) (br_f (by decide) (br_f (by decide) (br_t rfl ?_)))
  unfold te_dec at h
  by_cases hc : 0 + (te_max p 1) ≤ C
  · refine br_t ((te_leSub (l := 0) (by omega) (by omega) (by omega)).mpr hc) (nm_r (te_nsub (by omega)) ?_)
    by_cases hd : C ≤ 0 + (te_max p 1)
    · rw [if_pos hd] at h
      rw [show C - (te_max p 1) = 0 from by omega]
      exact h
    · rw [if_neg hd] at h
      exact h
  · rw [if_pos (by omega)] at h
    exact br_f (fun z => hc ((te_leSub (l := 0) (by omega) (by omega) (by omega)).mp z)) h
theorem te_yr71 (hR : R < 6) (hC : C < 12) (hP : P < 8) (hTB : T ≤ B) (hB : B < 6) (hK : K ≤ 8) (hp : p ≤ 99) (hq : q ≤ 99) (hw : te_b01 wt) (hc : te_rg ce) (e0 : nu 0 = nI p) (e1 : nu 1 = nI q) : te_To (fun t => wpY_last t ((nI R), (nI C), (nI P), (nI T), (nI B), ins, wr, ot, wt, (nI SR), (nI SC), (nI SP), (nI AR), (nI AC), (nI AO), (nI AB), (nI K), 0, bg, 0, mn, ce, sh, aq, kp, nu) 71) ((nI R), (nI (te_min ((te_max p 1) - 1) 11)), (nI P), (nI T), (nI B), ins, wr, ot, 0, (nI SR), (nI SC), (nI SP), (nI AR), (nI AC), (nI AO), (nI AB), (nI K), 0, bg, 0, mn, ce, sh, aq, kp, nu) := by
  obtain ⟨hn1, hn9⟩ := te_n1 p
  have hn := hn9 hp
  refine te_ylast (by decide) (by decide) (by decide) (by omega) e0 e1 (te_yk71 hw (by omega) ?_)
  intro post h
  unfold wpY_move
  refine br_f (by decide) (br_f (by decide) (br_f (by decide) (br_f (by decide) (br_t rfl ?_))))
  refine br_f (by decide) (br_t rfl ?_)
  unfold wY_move_210
  refine te_yless ((te_max p 1) - 1) 11 (te_ns1 hn1) rfl (by omega) (by omega) ?_
  exact h
theorem te_yr100 (hR : R < 6) (hC : C < 12) (hP : P < 8) (hTB : T ≤ B) (hB : B < 6) (hK : K ≤ 8) (hp : p ≤ 99) (hq : q ≤ 99) (hw : te_b01 wt) (hc : te_rg ce) (e0 : nu 0 = nI p) (e1 : nu 1 = nI q) : te_To (fun t => wpY_last t ((nI R), (nI C), (nI P), (nI T), (nI B), ins, wr, ot, wt, (nI SR), (nI SC), (nI SP), (nI AR), (nI AC), (nI AO), (nI AB), (nI K), 0, bg, 0, mn, ce, sh, aq, kp, nu) 100) ((nI (te_min ((te_max p 1) - 1) 5)), (nI C), (nI P), (nI T), (nI B), ins, wr, ot, 0, (nI SR), (nI SC), (nI SP), (nI AR), (nI AC), (nI AO), (nI AB), (nI K), 0, bg, 0, mn, ce, sh, aq, kp, nu) := by
  obtain ⟨hn1, hn9⟩ := te_n1 p
  have hn := hn9 hp
  refine te_ylast (by decide) (by decide) (by decide) (by omega) e0 e1 (te_yk100 hw (by omega) ?_)
  intro post h
  unfold wpY_move
  refine br_f (by decide) (br_f (by decide) (br_f (by decide) (br_f (by decide) (br_f (by decide) ?_))))
  refine te_yless ((te_max p 1) - 1) 5 (te_ns1 hn1) rfl (by omega) (by omega) ?_
  refine br_t rfl ?_
  exact h
theorem te_yr72 (hR : R < 6) (hC : C < 12) (hP : P < 8) (hTB : T ≤ B) (hB : B < 6) (hK : K ≤ 8) (hp : p ≤ 99) (hq : q ≤ 99) (hw : te_b01 wt) (hc : te_rg ce) (e0 : nu 0 = nI p) (e1 : nu 1 = nI q) : te_To (fun t => wpY_last t ((nI R), (nI C), (nI P), (nI T), (nI B), ins, wr, ot, wt, (nI SR), (nI SC), (nI SP), (nI AR), (nI AC), (nI AO), (nI AB), (nI K), 0, bg, 0, mn, ce, sh, aq, kp, nu) 72) ((nI (te_min ((te_max p 1) - 1) 5)), (nI (te_min (te_max q 1 - 1) 11)), (nI P), (nI T), (nI B), ins, wr, ot, 0, (nI SR), (nI SC), (nI SP), (nI AR), (nI AC), (nI AO), (nI AB), (nI K), 0, bg, 0, mn, ce, sh, aq, kp, nu) := by
  obtain ⟨hn1, hn9⟩ := te_n1 p
  have hn := hn9 hp
  refine te_ylast (by decide) (by decide) (by decide) (by omega) e0 e1 (te_yk72 hw (by omega) ?_)
  intro post h
  unfold wpY_move
  obtain ⟨hq1, hq9⟩ := te_n1 q
  have hqq := hq9 hq
  refine br_f (by decide) (br_f (by decide) (br_f (by decide) (br_f (by decide) (br_f (by decide) ?_))))
  refine te_yless ((te_max p 1) - 1) 5 (te_ns1 hn1) rfl (by omega) (by omega) ?_
  refine br_f (by decide) (br_f (by decide) ?_)
  unfold wY_move_210
  refine te_yless (te_max q 1 - 1) 11 (te_ns1 hq1) rfl (by omega) (by omega) ?_
  exact h
theorem te_yr74 (hR : R < 6) (hC : C < 12) (hP : P < 8) (hTB : T ≤ B) (hB : B < 6) (hK : K ≤ 8) (hp : p ≤ 99) (hq : q ≤ 99) (hw : te_b01 wt) (hc : te_rg ce) (e0 : nu 0 = nI p) (e1 : nu 1 = nI q) : te_To (fun t => wpY_last t ((nI R), (nI C), (nI P), (nI T), (nI B), ins, wr, ot, wt, (nI SR), (nI SC), (nI SP), (nI AR), (nI AC), (nI AO), (nI AB), (nI K), 0, bg, 0, mn, ce, sh, aq, kp, nu) 74) ((nI R), (nI C), (nI P), (nI T), (nI B), ins, wr, ot, 0, (nI SR), (nI SC), (nI SP), (nI AR), (nI AC), (nI AO), (nI AB), (nI K), 0, bg, 0, mn, (te_er p 0 72 (12 * R + C) ce), sh, aq, kp, nu) := by
  obtain ⟨hn1, hn9⟩ := te_n1 p
  have hn := hn9 hp
  refine te_ylast (by decide) (by decide) (by decide) (by omega) e0 e1 (te_yk74 hw ?_)
  intro post h
  unfold wpY_cut
  refine nm_r (te_iy R C) ?_
  refine br_t rfl (br_t rfl (br_t rfl ?_))
  unfold te_er at h
  by_cases h0 : p = 0
  · subst h0
    rw [if_pos rfl] at h
    refine br_f (nI_nlt (a := 2) (b := 0) (by omega) (by omega)) (br_t nI_0 (br_f (by decide) ?_))
    unfold wY_cut_97
    refine te_yempty (12 * R + C) (71) rfl rfl (by omega) (by omega) ?_
    exact h
  rw [if_neg h0] at h
  by_cases h1 : p = 1
  · subst h1
    rw [if_pos rfl] at h
    refine br_f (by decide) (br_f (by decide) (br_t rfl ?_))
    unfold wY_cut_97
    refine te_yempty (0) (12 * R + C) rfl rfl (by omega) (by omega) ?_
    exact h
  rw [if_neg h1] at h
  by_cases h2 : p = 2
  · subst h2
    rw [if_pos rfl] at h
    refine br_f (by decide) (br_f (by decide) (br_f (by decide) ?_))
    unfold wY_cut_97
    refine te_yempty (0) (71) rfl rfl (by omega) (by omega) ?_
    exact h
  rw [if_neg h2] at h
  exact br_t (nI_lt (a := 2) (by omega) (by omega)) h
theorem te_yr75 (hR : R < 6) (hC : C < 12) (hP : P < 8) (hTB : T ≤ B) (hB : B < 6) (hK : K ≤ 8) (hp : p ≤ 99) (hq : q ≤ 99) (hw : te_b01 wt) (hc : te_rg ce) (e0 : nu 0 = nI p) (e1 : nu 1 = nI q) : te_To (fun t => wpY_last t ((nI R), (nI C), (nI P), (nI T), (nI B), ins, wr, ot, wt, (nI SR), (nI SC), (nI SP), (nI AR), (nI AC), (nI AO), (nI AB), (nI K), 0, bg, 0, mn, ce, sh, aq, kp, nu) 75) ((nI R), (nI C), (nI P), (nI T), (nI B), ins, wr, ot, 0, (nI SR), (nI SC), (nI SP), (nI AR), (nI AC), (nI AO), (nI AB), (nI K), 0, bg, 0, mn, (te_er p (12 * R) (12 * R + 12) (12 * R + C) ce), sh, aq, kp, nu) := by
  obtain ⟨hn1, hn9⟩ := te_n1 p
  have hn := hn9 hp
  refine te_ylast (by decide) (by decide) (by decide) (by omega) e0 e1 (te_yk75 hw ?_)
  intro post h
  unfold wpY_cut
  refine nm_r (te_iy R C) ?_
  refine br_f (by decide) (br_f (by decide) ?_)
  rw [te_iy11, te_12m]
  refine br_f (by decide) (br_t rfl ?_)
  unfold te_er at h
  by_cases h0 : p = 0
  · subst h0
    rw [if_pos rfl] at h
    refine br_f (nI_nlt (a := 2) (b := 0) (by omega) (by omega)) (br_t nI_0 (br_f (by decide) ?_))
    unfold wY_cut_97
    refine te_yempty (12 * R + C) (12 * R + 11) rfl rfl (by omega) (by omega) ?_
    exact h
  rw [if_neg h0] at h
  by_cases h1 : p = 1
  · subst h1
    rw [if_pos rfl] at h
    refine br_f (by decide) (br_f (by decide) (br_t rfl ?_))
    unfold wY_cut_97
    refine te_yempty (12 * R) (12 * R + C) rfl rfl (by omega) (by omega) ?_
    exact h
  rw [if_neg h1] at h
  by_cases h2 : p = 2
  · subst h2
    rw [if_pos rfl] at h
    refine br_f (by decide) (br_f (by decide) (br_f (by decide) ?_))
    unfold wY_cut_97
    refine te_yempty (12 * R) (12 * R + 11) rfl rfl (by omega) (by omega) ?_
    exact h
  rw [if_neg h2] at h
  exact br_t (nI_lt (a := 2) (by omega) (by omega)) h
theorem te_yr88 (hR : R < 6) (hC : C < 12) (hP : P < 8) (hTB : T ≤ B) (hB : B < 6) (hK : K ≤ 8) (hp : p ≤ 99) (hq : q ≤ 99) (hw : te_b01 wt) (hc : te_rg ce) (e0 : nu 0 = nI p) (e1 : nu 1 = nI q) : te_To (fun t => wpY_last t ((nI R), (nI C), (nI P), (nI T), (nI B), ins, wr, ot, wt, (nI SR), (nI SC), (nI SP), (nI AR), (nI AC), (nI AO), (nI AB), (nI K), 0, bg, 0, mn, ce, sh, aq, kp, nu) 88) ((nI R), (nI C), (nI P), (nI T), (nI B), ins, wr, ot, 0, (nI SR), (nI SC), (nI SP), (nI AR), (nI AC), (nI AO), (nI AB), (nI K), 0, bg, 0, mn, (te_cl ce (12 * R + C) (12 * R + te_min (C + (te_max p 1)) 12)), sh, aq, kp, nu) := by
  obtain ⟨hn1, hn9⟩ := te_n1 p
  have hn := hn9 hp
  refine te_ylast (by decide) (by decide) (by decide) (by omega) e0 e1 (te_yk88 hw ?_)
  intro post h
  unfold wpY_cut
  refine nm_r (te_iy R C) ?_
  refine br_f (by decide) (br_f (by decide) (br_f (by decide) (br_f (by decide) (br_t rfl ?_))))
  have e : te_min (12 * R + C + (te_max p 1) - 1) (12 * R + 11) + 1 = 12 * R + te_min (C + (te_max p 1)) 12 := by
    unfold te_min
    split <;> split <;> omega
  have hm : te_min (12 * R + C + (te_max p 1) - 1) (12 * R + 11) ≤ 12 * R + 11 := te_minLe _ _
  have hm2 : 12 * R + C ≤ te_min (12 * R + C + (te_max p 1) - 1) (12 * R + 11) + 1 := by
    unfold te_min
    split <;> omega
  rw [← e] at h
  refine te_yless (12 * R + C + (te_max p 1) - 1) (12 * R + 11) ?_ (te_iy11 R) (by omega) (by omega) ?_
  · rw [nI_add]
    exact te_ns1 (by omega)
  refine te_yempty (12 * R + C) (te_min (12 * R + C + (te_max p 1) - 1) (12 * R + 11)) rfl rfl hm2 (by omega) ?_
  exact h
theorem te_yr80 (hR : R < 6) (hC : C < 12) (hP : P < 8) (hTB : T ≤ B) (hB : B < 6) (hK : K ≤ 8) (hp : p ≤ 99) (hq : q ≤ 99) (hw : te_b01 wt) (hc : te_rg ce) (e0 : nu 0 = nI p) (e1 : nu 1 = nI q) : te_To (fun t => wpY_last t ((nI R), (nI C), (nI P), (nI T), (nI B), ins, wr, ot, wt, (nI SR), (nI SC), (nI SP), (nI AR), (nI AC), (nI AO), (nI AB), (nI K), 0, bg, 0, mn, ce, sh, aq, kp, nu) 80) ((nI R), (nI C), (nI P), (nI T), (nI B), ins, wr, ot, 0, (nI SR), (nI SC), (nI SP), (nI AR), (nI AC), (nI AO), (nI AB), (nI K), 0, bg, 0, mn, (te_mb ce (12 * R + C) (12 * R + 12) (te_max p 1)), sh, aq, kp, nu) := by
  obtain ⟨hn1, hn9⟩ := te_n1 p
  have hn := hn9 hp
  refine te_ylast (by decide) (by decide) (by decide) (by omega) e0 e1 (te_yk80 hw ?_)
  intro post h
  unfold wpY_cut
  refine nm_r (te_iy R C) ?_
  refine br_f (by decide) (br_f (by decide) (br_f (by decide) (br_f (by decide) (br_f (by decide) (br_t rfl ?_)))))
  refine te_ytakeOut (te_max p 1) rfl hR hC (by omega) ?_
  exact h
theorem te_yr64 (hR : R < 6) (hC : C < 12) (hP : P < 8) (hTB : T ≤ B) (hB : B < 6) (hK : K ≤ 8) (hp : p ≤ 99) (hq : q ≤ 99) (hw : te_b01 wt) (hc : te_rg ce) (e0 : nu 0 = nI p) (e1 : nu 1 = nI q) : te_To (fun t => wpY_last t ((nI R), (nI C), (nI P), (nI T), (nI B), ins, wr, ot, wt, (nI SR), (nI SC), (nI SP), (nI AR), (nI AC), (nI AO), (nI AB), (nI K), 0, bg, 0, mn, ce, sh, aq, kp, nu) 64) ((nI R), (nI C), (nI P), (nI T), (nI B), ins, wr, ot, 0, (nI SR), (nI SC), (nI SP), (nI AR), (nI AC), (nI AO), (nI AB), (nI K), 0, bg, 0, mn, (te_mo ce (12 * R + C) (12 * R + 12) (te_max p 1)), sh, aq, kp, nu) := by
  obtain ⟨hn1, hn9⟩ := te_n1 p
  have hn := hn9 hp
  refine te_ylast (by decide) (by decide) (by decide) (by omega) e0 e1 (te_yk64 hw ?_)
  intro post h
  unfold wpY_cut
  refine nm_r (te_iy R C) ?_
  refine br_f (by decide) (br_f (by decide) (br_f (by decide) (br_f (by decide) (br_f (by decide) (br_f (by decide) ?_)))))
  refine te_yputIn (te_max p 1) rfl hR hC (by omega) ?_
  exact h
theorem te_yr76 (hR : R < 6) (hC : C < 12) (hP : P < 8) (hTB : T ≤ B) (hB : B < 6) (hK : K ≤ 8) (hp : p ≤ 99) (hq : q ≤ 99) (hw : te_b01 wt) (hc : te_rg ce) (e0 : nu 0 = nI p) (e1 : nu 1 = nI q) (hT : T ≤ R) (hRB : R ≤ B) : te_To (fun t => wpY_last t ((nI R), (nI C), (nI P), (nI T), (nI B), ins, wr, ot, wt, (nI SR), (nI SC), (nI SP), (nI AR), (nI AC), (nI AO), (nI AB), (nI K), 0, bg, 0, mn, ce, sh, aq, kp, nu) 76) ((nI R), 0, (nI P), (nI T), (nI B), ins, wr, ot, 0, (nI SR), (nI SC), (nI SP), (nI AR), (nI AC), (nI AO), (nI AB), (nI K), 0, bg, 0, mn, (te_mo ce (12 * R) (12 * (B + 1)) (12 * (te_max p 1))), sh, aq, kp, nu) := by
  obtain ⟨hn1, hn9⟩ := te_n1 p
  have hn := hn9 hp
  refine te_ylast (by decide) (by decide) (by decide) (by omega) e0 e1 (te_yk76 hw ?_)
  intro post h
  unfold wpY_moveRows
  have H := te_ymL_L (cc := nI C) (R := R) (B := B) (n := (te_max p 1)) hRB hB (by omega) h (te_max p 1) 0 (by omega)
  rw [show 12 * 0 = 0 from rfl, te_mo0] at H
  exact (br_f (nI_nlt (by omega) (by omega)) (br_f (nI_nlt (by omega) (by omega)) (Exists.intro _ H)))
theorem te_yr77 (hR : R < 6) (hC : C < 12) (hP : P < 8) (hTB : T ≤ B) (hB : B < 6) (hK : K ≤ 8) (hp : p ≤ 99) (hq : q ≤ 99) (hw : te_b01 wt) (hc : te_rg ce) (e0 : nu 0 = nI p) (e1 : nu 1 = nI q) (hT : T ≤ R) (hRB : R ≤ B) : te_To (fun t => wpY_last t ((nI R), (nI C), (nI P), (nI T), (nI B), ins, wr, ot, wt, (nI SR), (nI SC), (nI SP), (nI AR), (nI AC), (nI AO), (nI AB), (nI K), 0, bg, 0, mn, ce, sh, aq, kp, nu) 77) ((nI R), 0, (nI P), (nI T), (nI B), ins, wr, ot, 0, (nI SR), (nI SC), (nI SP), (nI AR), (nI AC), (nI AO), (nI AB), (nI K), 0, bg, 0, mn, (te_mb ce (12 * R) (12 * (B + 1)) (12 * (te_max p 1))), sh, aq, kp, nu) := by
  obtain ⟨hn1, hn9⟩ := te_n1 p
  have hn := hn9 hp
  refine te_ylast (by decide) (by decide) (by decide) (by omega) e0 e1 (te_yk77 hw ?_)
  intro post h
  unfold wpY_moveRows
  have H := te_ymM_L (cc := nI C) (R := R) (B := B) (n := (te_max p 1)) hRB hB (by omega) h (te_max p 1) 0 (by omega)
  rw [show 12 * 0 = 0 from rfl, te_mb0] at H
  exact (br_f (nI_nlt (by omega) (by omega)) (br_f (nI_nlt (by omega) (by omega)) (Exists.intro _ H)))
theorem te_yr76o (hR : R < 6) (hC : C < 12) (hP : P < 8) (hTB : T ≤ B) (hB : B < 6) (hK : K ≤ 8) (hp : p ≤ 99) (hq : q ≤ 99) (hw : te_b01 wt) (hc : te_rg ce) (e0 : nu 0 = nI p) (e1 : nu 1 = nI q) (hO : R < T ∨ B < R) : te_To (fun t => wpY_last t ((nI R), (nI C), (nI P), (nI T), (nI B), ins, wr, ot, wt, (nI SR), (nI SC), (nI SP), (nI AR), (nI AC), (nI AO), (nI AB), (nI K), 0, bg, 0, mn, ce, sh, aq, kp, nu) 76) ((nI R), (nI C), (nI P), (nI T), (nI B), ins, wr, ot, 0, (nI SR), (nI SC), (nI SP), (nI AR), (nI AC), (nI AO), (nI AB), (nI K), 0, bg, 0, mn, ce, sh, aq, kp, nu) := by
  obtain ⟨hn1, hn9⟩ := te_n1 p
  have hn := hn9 hp
  refine te_ylast (by decide) (by decide) (by decide) (by omega) e0 e1 (te_yk76 hw ?_)
  intro post h
  unfold wpY_moveRows
  have H := te_ymO_L (x1 := 76) (x4 := nI R) (n := (te_max p 1)) (by decide) (by decide) (by omega) h (te_max p 1) 0 (by omega)
  by_cases h1 : R < T
  · exact br_t (nI_lt h1 (by omega)) (Exists.intro _ H)
  · exact br_f (nI_nlt (by omega) (by omega)) (br_t (nI_lt (by omega) (by omega)) (Exists.intro _ H))
theorem te_yr77o (hR : R < 6) (hC : C < 12) (hP : P < 8) (hTB : T ≤ B) (hB : B < 6) (hK : K ≤ 8) (hp : p ≤ 99) (hq : q ≤ 99) (hw : te_b01 wt) (hc : te_rg ce) (e0 : nu 0 = nI p) (e1 : nu 1 = nI q) (hO : R < T ∨ B < R) : te_To (fun t => wpY_last t ((nI R), (nI C), (nI P), (nI T), (nI B), ins, wr, ot, wt, (nI SR), (nI SC), (nI SP), (nI AR), (nI AC), (nI AO), (nI AB), (nI K), 0, bg, 0, mn, ce, sh, aq, kp, nu) 77) ((nI R), (nI C), (nI P), (nI T), (nI B), ins, wr, ot, 0, (nI SR), (nI SC), (nI SP), (nI AR), (nI AC), (nI AO), (nI AB), (nI K), 0, bg, 0, mn, ce, sh, aq, kp, nu) := by
  obtain ⟨hn1, hn9⟩ := te_n1 p
  have hn := hn9 hp
  refine te_ylast (by decide) (by decide) (by decide) (by omega) e0 e1 (te_yk77 hw ?_)
  intro post h
  unfold wpY_moveRows
  have H := te_ymO_L (x1 := 77) (x4 := nI R) (n := (te_max p 1)) (by decide) (by decide) (by omega) h (te_max p 1) 0 (by omega)
  by_cases h1 : R < T
  · exact br_t (nI_lt h1 (by omega)) (Exists.intro _ H)
  · exact br_f (nI_nlt (by omega) (by omega)) (br_t (nI_lt (by omega) (by omega)) (Exists.intro _ H))
theorem te_yr83 (hR : R < 6) (hC : C < 12) (hP : P < 8) (hTB : T ≤ B) (hB : B < 6) (hK : K ≤ 8) (hp : p ≤ 99) (hq : q ≤ 99) (hw : te_b01 wt) (hc : te_rg ce) (e0 : nu 0 = nI p) (e1 : nu 1 = nI q) : te_To (fun t => wpY_last t ((nI R), (nI C), (nI P), (nI T), (nI B), ins, wr, ot, wt, (nI SR), (nI SC), (nI SP), (nI AR), (nI AC), (nI AO), (nI AB), (nI K), 0, bg, 0, mn, ce, sh, aq, kp, nu) 83) ((nI R), (nI C), (nI P), (nI T), (nI B), ins, wr, ot, 0, (nI SR), (nI SC), (nI SP), (nI AR), (nI AC), (nI AO), (nI AB), (nI (te_sn (te_q ot T) T B (te_max p 1) K ce kp).1), 0, bg, 0, mn, ((te_sn (te_q ot T) T B (te_max p 1) K ce kp).2.1), sh, aq, ((te_sn (te_q ot T) T B (te_max p 1) K ce kp).2.2), nu) := by
  obtain ⟨hn1, hn9⟩ := te_n1 p
  have hn := hn9 hp
  refine te_ylast (by decide) (by decide) (by decide) (by omega) e0 e1 (te_yk83 hw ?_)
  intro post h
  unfold wpY_moveRows
  have H : ∀ x3 : Int32, te_b01 x3 → wY_moveRows_37 post 83 (nI (te_max p 1)) x3 (nI R) ((te_max p 1) + 1) (nI 0) (nI R) (nI C) (nI P) (nI T) (nI B) ins wr ot 0 (nI SR) (nI SC) (nI SP) (nI AR) (nI AC) (nI AO) (nI AB) (nI K) 0 bg 0 mn ce sh aq kp nu := fun x3 hb => te_ymS_L hb hTB hB (by omega) (te_max p 1) 0 K ce kp (by omega) hK hc h
  by_cases h1 : R < T
  · exact br_t (nI_lt h1 (by omega)) (Exists.intro _ (H 0 te_0))
  · by_cases h2 : B < R
    · exact br_f (nI_nlt (by omega) (by omega)) (br_t (nI_lt h2 (by omega)) (Exists.intro _ (H 0 te_0)))
    · exact br_f (nI_nlt (by omega) (by omega)) (br_f (nI_nlt (by omega) (by omega)) (Exists.intro _ (H 1 te_1)))
theorem te_yr84 (hR : R < 6) (hC : C < 12) (hP : P < 8) (hTB : T ≤ B) (hB : B < 6) (hK : K ≤ 8) (hp : p ≤ 99) (hq : q ≤ 99) (hw : te_b01 wt) (hc : te_rg ce) (e0 : nu 0 = nI p) (e1 : nu 1 = nI q) : te_To (fun t => wpY_last t ((nI R), (nI C), (nI P), (nI T), (nI B), ins, wr, ot, wt, (nI SR), (nI SC), (nI SP), (nI AR), (nI AC), (nI AO), (nI AB), (nI K), 0, bg, 0, mn, ce, sh, aq, kp, nu) 84) ((nI R), (nI C), (nI P), (nI T), (nI B), ins, wr, ot, 0, (nI SR), (nI SC), (nI SP), (nI AR), (nI AC), (nI AO), (nI AB), (nI K), 0, bg, 0, mn, (te_mo ce (12 * T) (12 * (B + 1)) (12 * (te_max p 1))), sh, aq, kp, nu) := by
  obtain ⟨hn1, hn9⟩ := te_n1 p
  have hn := hn9 hp
  refine te_ylast (by decide) (by decide) (by decide) (by omega) e0 e1 (te_yk84 hw ?_)
  intro post h
  unfold wpY_moveRows
  have H : ∀ x3 : Int32, te_b01 x3 → wY_moveRows_37 post 84 (nI (te_max p 1)) x3 (nI R) ((te_max p 1) + 1) (nI 0) (nI R) (nI C) (nI P) (nI T) (nI B) ins wr ot 0 (nI SR) (nI SC) (nI SP) (nI AR) (nI AC) (nI AO) (nI AB) (nI K) 0 bg 0 mn ce sh aq kp nu := by
    intro x3 hb
    have H := te_ymT_L (x3 := x3) (x4 := nI R) hTB hB (n := (te_max p 1)) (by omega) h (te_max p 1) 0 (by omega)
    rw [show 12 * 0 = 0 from rfl, te_mo0] at H
    exact H
  by_cases h1 : R < T
  · exact br_t (nI_lt h1 (by omega)) (Exists.intro _ (H 0 te_0))
  · by_cases h2 : B < R
    · exact br_f (nI_nlt (by omega) (by omega)) (br_t (nI_lt h2 (by omega)) (Exists.intro _ (H 0 te_0)))
    · exact br_f (nI_nlt (by omega) (by omega)) (br_f (nI_nlt (by omega) (by omega)) (Exists.intro _ (H 1 te_1)))
theorem te_yr114 (hR : R < 6) (hC : C < 12) (hP : P < 8) (hTB : T ≤ B) (hB : B < 6) (hK : K ≤ 8) (hp : p ≤ 99) (hq : q ≤ 99) (hw : te_b01 wt) (hc : te_rg ce) (e0 : nu 0 = nI p) (e1 : nu 1 = nI q) (h1 : (te_max p 1) < te_q6 q) (h6 : te_q6 q ≤ 6) : te_To (fun t => wpY_last t ((nI R), (nI C), (nI P), (nI T), (nI B), ins, wr, ot, wt, (nI SR), (nI SC), (nI SP), (nI AR), (nI AC), (nI AO), (nI AB), (nI K), 0, bg, 0, mn, ce, sh, aq, kp, nu) 114) (0, 0, (nI P), (nI ((te_max p 1) - 1)), (nI (te_q6 q - 1)), ins, wr, ot, 0, (nI SR), (nI SC), (nI SP), (nI AR), (nI AC), (nI AO), (nI AB), (nI K), 0, bg, 0, mn, ce, sh, aq, kp, nu) := by
  obtain ⟨hn1, hn9⟩ := te_n1 p
  have hn := hn9 hp
  refine te_ylast (by decide) (by decide) (by decide) (by omega) e0 e1 (te_yk114 hw (by omega) ?_)
  intro post h
  exact br_f (nI_ge h1 (by omega)) (br_f (nI_nlt (b := te_q6 q) (a := 6) h6 (by omega)) (nm_r (te_ns1 hn1) (nm_r (te_ns1 (by omega)) h)))
theorem te_yr114o (hR : R < 6) (hC : C < 12) (hP : P < 8) (hTB : T ≤ B) (hB : B < 6) (hK : K ≤ 8) (hp : p ≤ 99) (hq : q ≤ 99) (hw : te_b01 wt) (hc : te_rg ce) (e0 : nu 0 = nI p) (e1 : nu 1 = nI q) (hO : te_q6 q ≤ (te_max p 1) ∨ 6 < te_q6 q) : te_To (fun t => wpY_last t ((nI R), (nI C), (nI P), (nI T), (nI B), ins, wr, ot, wt, (nI SR), (nI SC), (nI SP), (nI AR), (nI AC), (nI AO), (nI AB), (nI K), 0, bg, 0, mn, ce, sh, aq, kp, nu) 114) ((nI R), (nI C), (nI P), (nI T), (nI B), ins, wr, ot, 0, (nI SR), (nI SC), (nI SP), (nI AR), (nI AC), (nI AO), (nI AB), (nI K), 0, bg, 0, mn, ce, sh, aq, kp, nu) := by
  obtain ⟨hn1, hn9⟩ := te_n1 p
  have hn := hn9 hp
  refine te_ylast (by decide) (by decide) (by decide) (by omega) e0 e1 (te_yk114 hw (by omega) ?_)
  intro post h
  have hq6 : te_q6 q ≤ 99 := by unfold te_q6; split <;> omega
  by_cases h1 : te_q6 q ≤ (te_max p 1)
  · exact br_t (nI_le h1 (by omega)) h
  · exact br_f (nI_ge (by omega) (by omega)) (br_t (nI_lt (a := 6) (by omega) (by omega)) h)
theorem te_yr104 (hR : R < 6) (hC : C < 12) (hP : P < 8) (hTB : T ≤ B) (hB : B < 6) (hK : K ≤ 8) (hp : p ≤ 99) (hq : q ≤ 99) (hw : te_b01 wt) (hc : te_rg ce) (e0 : nu 0 = nI p) (e1 : nu 1 = nI q) (hin : te_b01 ins) (hwr : te_b01 wr) (h4 : p = 4) : te_To (fun t => wpY_last t ((nI R), (nI C), (nI P), (nI T), (nI B), ins, wr, ot, wt, (nI SR), (nI SC), (nI SP), (nI AR), (nI AC), (nI AO), (nI AB), (nI K), 0, bg, 0, mn, ce, sh, aq, kp, nu) 104) ((nI R), (nI C), (nI P), (nI T), (nI B), 1, wr, ot, wt, (nI SR), (nI SC), (nI SP), (nI AR), (nI AC), (nI AO), (nI AB), (nI K), 0, bg, 0, mn, ce, sh, aq, kp, nu) := by
  intro post h
  refine nm_r e0 (br_t rfl (br_t rfl (br_t rfl (br_t (congrArg nI h4) ?_))))
  exact And.intro (te_nb te_1) (And.intro (te_fb te_1) (br_t rfl (And.intro (te_nb hwr) (And.intro (te_fb hwr) (br_t rfl h)))))
theorem te_yr104o (hR : R < 6) (hC : C < 12) (hP : P < 8) (hTB : T ≤ B) (hB : B < 6) (hK : K ≤ 8) (hp : p ≤ 99) (hq : q ≤ 99) (hw : te_b01 wt) (hc : te_rg ce) (e0 : nu 0 = nI p) (e1 : nu 1 = nI q) (hin : te_b01 ins) (hwr : te_b01 wr) (h4 : p ≠ 4) : te_To (fun t => wpY_last t ((nI R), (nI C), (nI P), (nI T), (nI B), ins, wr, ot, wt, (nI SR), (nI SC), (nI SP), (nI AR), (nI AC), (nI AO), (nI AB), (nI K), 0, bg, 0, mn, ce, sh, aq, kp, nu) 104) ((nI R), (nI C), (nI P), (nI T), (nI B), ins, wr, ot, wt, (nI SR), (nI SC), (nI SP), (nI AR), (nI AC), (nI AO), (nI AB), (nI K), 0, bg, 0, mn, ce, sh, aq, kp, nu) := by
  intro post h
  refine nm_r e0 (br_t rfl (br_t rfl (br_t rfl (br_f (te_ne (b := 4) h4 (by omega) (by omega)) ?_))))
  exact And.intro (te_nb hin) (And.intro (te_fb hin) (br_t rfl (And.intro (te_nb hwr) (And.intro (te_fb hwr) (br_t rfl h)))))
theorem te_yr108 (hR : R < 6) (hC : C < 12) (hP : P < 8) (hTB : T ≤ B) (hB : B < 6) (hK : K ≤ 8) (hp : p ≤ 99) (hq : q ≤ 99) (hw : te_b01 wt) (hc : te_rg ce) (e0 : nu 0 = nI p) (e1 : nu 1 = nI q) (hin : te_b01 ins) (hwr : te_b01 wr) (h4 : p = 4) : te_To (fun t => wpY_last t ((nI R), (nI C), (nI P), (nI T), (nI B), ins, wr, ot, wt, (nI SR), (nI SC), (nI SP), (nI AR), (nI AC), (nI AO), (nI AB), (nI K), 0, bg, 0, mn, ce, sh, aq, kp, nu) 108) ((nI R), (nI C), (nI P), (nI T), (nI B), 0, wr, ot, wt, (nI SR), (nI SC), (nI SP), (nI AR), (nI AC), (nI AO), (nI AB), (nI K), 0, bg, 0, mn, ce, sh, aq, kp, nu) := by
  intro post h
  refine nm_r e0 (br_f (by decide) (br_f (by decide) (br_t rfl (br_t rfl (br_t (congrArg nI h4) ?_)))))
  exact And.intro (te_nb te_0) (And.intro (te_fb te_0) (br_t rfl (And.intro (te_nb hwr) (And.intro (te_fb hwr) (br_t rfl h)))))
theorem te_yr108o (hR : R < 6) (hC : C < 12) (hP : P < 8) (hTB : T ≤ B) (hB : B < 6) (hK : K ≤ 8) (hp : p ≤ 99) (hq : q ≤ 99) (hw : te_b01 wt) (hc : te_rg ce) (e0 : nu 0 = nI p) (e1 : nu 1 = nI q) (hin : te_b01 ins) (hwr : te_b01 wr) (h4 : p ≠ 4) : te_To (fun t => wpY_last t ((nI R), (nI C), (nI P), (nI T), (nI B), ins, wr, ot, wt, (nI SR), (nI SC), (nI SP), (nI AR), (nI AC), (nI AO), (nI AB), (nI K), 0, bg, 0, mn, ce, sh, aq, kp, nu) 108) ((nI R), (nI C), (nI P), (nI T), (nI B), ins, wr, ot, wt, (nI SR), (nI SC), (nI SP), (nI AR), (nI AC), (nI AO), (nI AB), (nI K), 0, bg, 0, mn, ce, sh, aq, kp, nu) := by
  intro post h
  refine nm_r e0 (br_f (by decide) (br_f (by decide) (br_t rfl (br_t rfl (br_f (te_ne (b := 4) h4 (by omega) (by omega)) ?_)))))
  exact And.intro (te_nb hin) (And.intro (te_fb hin) (br_t rfl (And.intro (te_nb hwr) (And.intro (te_fb hwr) (br_t rfl h)))))
theorem te_yr109 {E : Nat} {v : Nat → Nat} (hR : R < 6) (hC : C < 12) (hP : P < 8) (hTB : T ≤ B) (hB : B < 6) (hK : K ≤ 8) (hp : p ≤ 99) (hq : q ≤ 99) (hw : te_b01 wt) (hc : te_rg ce) (e0 : nu 0 = nI p) (e1 : nu 1 = nI q) (hE : E ≤ 4) (hv : ∀ j, j < 4 → v j ≤ 99 ∧ nu j = nI (v j)) : te_To (fun t => wpY_last t ((nI R), (nI C), (nI P), (nI T), (nI B), ins, wr, ot, wt, (nI SR), (nI SC), (nI SP), (nI AR), (nI AC), (nI AO), (nI AB), (nI K), 0, bg, 0, (nI (E + 1)), ce, sh, aq, kp, nu) 109) ((nI R), (nI C), (nI (te_pp v (te_min (E + 1) 4) 0 P)), (nI T), (nI B), ins, wr, ot, wt, (nI SR), (nI SC), (nI SP), (nI AR), (nI AC), (nI AO), (nI AB), (nI K), 0, bg, 0, (nI (E + 1)), ce, sh, aq, kp, nu) := by
  intro post h
  refine nm_r e0 (br_f (by decide) (br_f (by decide) (br_f (by decide) (br_t rfl (br_t rfl ?_)))))
  exact Exists.intro _ (te_ylp_L hE hv (te_min (E + 1) 4) 0 P (by omega) hP h)
theorem te_yrN {x : Int32} (hR : R < 6) (hC : C < 12) (hP : P < 8) (hTB : T ≤ B) (hB : B < 6) (hK : K ≤ 8) (hp : p ≤ 99) (hq : q ≤ 99) (hw : te_b01 wt) (hc : te_rg ce) (e0 : nu 0 = nI p) (e1 : nu 1 = nI q) (h64 : ¬ x = 64) (h65 : ¬ x = 65) (h66 : ¬ x = 66) (h67 : ¬ x = 67) (h68 : ¬ x = 68) (h71 : ¬ x = 71) (h72 : ¬ x = 72) (h74 : ¬ x = 74) (h75 : ¬ x = 75) (h76 : ¬ x = 76) (h77 : ¬ x = 77) (h80 : ¬ x = 80) (h83 : ¬ x = 83) (h84 : ¬ x = 84) (h88 : ¬ x = 88) (h100 : ¬ x = 100) (h114 : ¬ x = 114) (h104 : ¬ x = 104) (h108 : ¬ x = 108) (h109 : ¬ x = 109) (hlo : ¬ x < 65 → ¬ x ≤ 68) : te_To (fun t => wpY_last t ((nI R), (nI C), (nI P), (nI T), (nI B), ins, wr, ot, wt, (nI SR), (nI SC), (nI SP), (nI AR), (nI AC), (nI AO), (nI AB), (nI K), 0, bg, 0, mn, ce, sh, aq, kp, nu) x) ((nI R), (nI C), (nI P), (nI T), (nI B), ins, wr, ot, wt, (nI SR), (nI SC), (nI SP), (nI AR), (nI AC), (nI AO), (nI AB), (nI K), 0, bg, 0, mn, ce, sh, aq, kp, nu) :=
  te_ylast h104 h108 h109 (by omega) e0 e1 (te_ykN hw h64 h65 h66 h67 h68 h71 h72 h74 h75 h76 h77 h80 h83 h84 h88 h100 h114 hlo)
end
end
section
/-! both sides at each last byte, without ? -/
def te_R0 (u : SX) (v : SY) : Prop :=
  ∃ (R C P T B : Nat) (ins wr ot wt : Int32) (SR SC SP AR AC AO AB K : Nat) (ma mk se bg mq mn : Int32) (ce ad aq sh kp nu nq : Nat → Int32),
    u = ((nI R), (nI C), (nI P), (nI T), (nI B), ins, wr, ot, wt, (nI SR), (nI SC), (nI SP), (nI AR), (nI AC), (nI AO), (nI AB), (nI K), 0, ma, mk, se, ce, ad, sh, kp, nu) ∧ v = ((nI R), (nI C), (nI P), (nI T), (nI B), ins, wr, ot, wt, (nI SR), (nI SC), (nI SP), (nI AR), (nI AC), (nI AO), (nI AB), (nI K), 0, bg, mq, mn, ce, sh, aq, kp, nq) ∧ te_A R C P T B ins wr ot wt SR SC SP AR AC AO AB K ∧ te_F ot ce ad aq ∧ ∀ j, 4 ≤ j → nu j = nq j
theorem te_mk0 {R C P T B : Nat} {ins wr ot wt : Int32} {SR SC SP AR AC AO AB K : Nat} {ma mk se bg mq mn : Int32} {ce ad aq sh kp nu nq : Nat → Int32} (hA : te_A R C P T B ins wr ot wt SR SC SP AR AC AO AB K) (hF : te_F ot ce ad aq) (hj : ∀ j, 4 ≤ j → nu j = nq j) : te_R0 ((nI R), (nI C), (nI P), (nI T), (nI B), ins, wr, ot, wt, (nI SR), (nI SC), (nI SP), (nI AR), (nI AC), (nI AO), (nI AB), (nI K), 0, ma, mk, se, ce, ad, sh, kp, nu) ((nI R), (nI C), (nI P), (nI T), (nI B), ins, wr, ot, wt, (nI SR), (nI SC), (nI SP), (nI AR), (nI AC), (nI AO), (nI AB), (nI K), 0, bg, mq, mn, ce, sh, aq, kp, nq) := by
  unfold te_R0
  exact ⟨R, C, P, T, B, ins, wr, ot, wt, SR, SC, SP, AR, AC, AO, AB, K, ma, mk, se, bg, mq, mn, ce, ad, aq, sh, kp, nu, nq, rfl, rfl, hA, hF, hj⟩
theorem te_rgEr {c : Nat → Int32} (h : te_rg c) (p s e a : Nat) : te_rg (te_er p s e a c) := by
  unfold te_er
  repeat' split
  all_goals first | exact te_rgCl h _ _ | exact h
theorem te_rgCp {c d : Nat → Int32} (hc : te_rg c) (hd : te_rg d) (j : Nat) : te_rg (te_cp c d j) := by
  intro k
  simp only [te_cp]
  split
  · exact hc k
  · exact hd k
theorem te_cpHi (c s : Nat → Int32) {j : Nat} (h : 72 ≤ j) : te_cp c s 72 j = s j := by
  simp only [te_cp]
  rw [if_neg (by omega)]
theorem te_cpEq (c : Nat → Int32) {s t : Nat → Int32} (h : ∀ j, 72 ≤ j → s j = t j) : te_cp c t 72 = te_cp c s 72 := by
  funext k
  simp only [te_cp]
  by_cases hk : k < 72
  · rw [if_pos hk, if_pos hk]
  · rw [if_neg hk, if_neg hk]
    exact (h k (by omega)).symm
section
variable {R C P T B SR SC SP AR AC AO AB K E : Nat} {ins wr ot wt bg : Int32} {ce ad aq sh kp nu : Nat → Int32}
theorem te_run65 (hA : te_A R C P T B ins wr ot wt SR SC SP AR AC AO AB K) (hF : te_F ot ce ad aq) {p q : Nat} (hp : p ≤ 99) (hq : q ≤ 99) (e0 : nu 0 = nI p) (e1 : nu 1 = nI q) : ∃ u' v', te_R0 u' v' ∧ te_To (fun t => wpX_runPlain t ((nI R), (nI C), (nI P), (nI T), (nI B), ins, wr, ot, wt, (nI SR), (nI SC), (nI SP), (nI AR), (nI AC), (nI AO), (nI AB), (nI K), 0, 0, 0, (nI E), ce, ad, sh, kp, nu) 65) u' ∧ te_To (fun t => wpY_last t ((nI R), (nI C), (nI P), (nI T), (nI B), ins, wr, ot, wt, (nI SR), (nI SC), (nI SP), (nI AR), (nI AC), (nI AO), (nI AB), (nI K), 0, bg, 0, (nI (E + 1)), ce, sh, aq, kp, nu) 65) v' := by
  obtain ⟨hR, hC, hP, hTB, hB, hin, hwr, hot, hwt, hsr, hsc, hsp, har, hac, hao, hab, hK⟩ := hA
  obtain ⟨hc, had, hjj, hoo⟩ := hF
  obtain ⟨hn1, hn9⟩ := te_n1 p
  have hn := hn9 hp
  have h6 : te_dec R (te_max p 1) (te_L65 R T) < 6 := by
    unfold te_dec te_L65
    repeat' split
    all_goals omega
  refine ⟨_, _, ?_, te_xr65 hR hC hP hTB hB hK hp hq e0 e1, te_yr65 hR hC hP hTB hB hK hp hq hwt hc e0 e1⟩
  exact te_mk0 ⟨h6, hC, hP, hTB, hB, hin, hwr, hot, te_0, hsr, hsc, hsp, har, hac, hao, hab, hK⟩ ⟨hc, had, hjj, hoo⟩ (fun _ _ => rfl)
theorem te_run66 (hA : te_A R C P T B ins wr ot wt SR SC SP AR AC AO AB K) (hF : te_F ot ce ad aq) {p q : Nat} (hp : p ≤ 99) (hq : q ≤ 99) (e0 : nu 0 = nI p) (e1 : nu 1 = nI q) : ∃ u' v', te_R0 u' v' ∧ te_To (fun t => wpX_runPlain t ((nI R), (nI C), (nI P), (nI T), (nI B), ins, wr, ot, wt, (nI SR), (nI SC), (nI SP), (nI AR), (nI AC), (nI AO), (nI AB), (nI K), 0, 0, 0, (nI E), ce, ad, sh, kp, nu) 66) u' ∧ te_To (fun t => wpY_last t ((nI R), (nI C), (nI P), (nI T), (nI B), ins, wr, ot, wt, (nI SR), (nI SC), (nI SP), (nI AR), (nI AC), (nI AO), (nI AB), (nI K), 0, bg, 0, (nI (E + 1)), ce, sh, aq, kp, nu) 66) v' := by
  obtain ⟨hR, hC, hP, hTB, hB, hin, hwr, hot, hwt, hsr, hsc, hsp, har, hac, hao, hab, hK⟩ := hA
  obtain ⟨hc, had, hjj, hoo⟩ := hF
  obtain ⟨hn1, hn9⟩ := te_n1 p
  have hn := hn9 hp
  have h6 : te_min (R + (te_max p 1)) (te_L66 R B) < 6 := by
    have h1 := te_minLe (R + (te_max p 1)) (te_L66 R B)
    have h2 : te_L66 R B ≤ 5 := by unfold te_L66; split <;> omega
    omega
  refine ⟨_, _, ?_, te_xr66 hR hC hP hTB hB hK hp hq e0 e1, te_yr66 hR hC hP hTB hB hK hp hq hwt hc e0 e1⟩
  exact te_mk0 ⟨h6, hC, hP, hTB, hB, hin, hwr, hot, te_0, hsr, hsc, hsp, har, hac, hao, hab, hK⟩ ⟨hc, had, hjj, hoo⟩ (fun _ _ => rfl)
theorem te_run67 (hA : te_A R C P T B ins wr ot wt SR SC SP AR AC AO AB K) (hF : te_F ot ce ad aq) {p q : Nat} (hp : p ≤ 99) (hq : q ≤ 99) (e0 : nu 0 = nI p) (e1 : nu 1 = nI q) : ∃ u' v', te_R0 u' v' ∧ te_To (fun t => wpX_runPlain t ((nI R), (nI C), (nI P), (nI T), (nI B), ins, wr, ot, wt, (nI SR), (nI SC), (nI SP), (nI AR), (nI AC), (nI AO), (nI AB), (nI K), 0, 0, 0, (nI E), ce, ad, sh, kp, nu) 67) u' ∧ te_To (fun t => wpY_last t ((nI R), (nI C), (nI P), (nI T), (nI B), ins, wr, ot, wt, (nI SR), (nI SC), (nI SP), (nI AR), (nI AC), (nI AO), (nI AB), (nI K), 0, bg, 0, (nI (E + 1)), ce, sh, aq, kp, nu) 67) v' := by
  obtain ⟨hR, hC, hP, hTB, hB, hin, hwr, hot, hwt, hsr, hsc, hsp, har, hac, hao, hab, hK⟩ := hA
  obtain ⟨hc, had, hjj, hoo⟩ := hF
  obtain ⟨hn1, hn9⟩ := te_n1 p
  have hn := hn9 hp
  have h6 : te_min (C + (te_max p 1)) 11 < 12 := Nat.lt_succ_of_le (te_minLe _ _)
  refine ⟨_, _, ?_, te_xr67 hR hC hP hTB hB hK hp hq e0 e1, te_yr67 hR hC hP hTB hB hK hp hq hwt hc e0 e1⟩
  exact te_mk0 ⟨hR, h6, hP, hTB, hB, hin, hwr, hot, te_0, hsr, hsc, hsp, har, hac, hao, hab, hK⟩ ⟨hc, had, hjj, hoo⟩ (fun _ _ => rfl)
theorem te_run68 (hA : te_A R C P T B ins wr ot wt SR SC SP AR AC AO AB K) (hF : te_F ot ce ad aq) {p q : Nat} (hp : p ≤ 99) (hq : q ≤ 99) (e0 : nu 0 = nI p) (e1 : nu 1 = nI q) : ∃ u' v', te_R0 u' v' ∧ te_To (fun t => wpX_runPlain t ((nI R), (nI C), (nI P), (nI T), (nI B), ins, wr, ot, wt, (nI SR), (nI SC), (nI SP), (nI AR), (nI AC), (nI AO), (nI AB), (nI K), 0, 0, 0, (nI E), ce, ad, sh, kp, nu) 68) u' ∧ te_To (fun t => wpY_last t ((nI R), (nI C), (nI P), (nI T), (nI B), ins, wr, ot, wt, (nI SR), (nI SC), (nI SP), (nI AR), (nI AC), (nI AO), (nI AB), (nI K), 0, bg, 0, (nI (E + 1)), ce, sh, aq, kp, nu) 68) v' := by
  obtain ⟨hR, hC, hP, hTB, hB, hin, hwr, hot, hwt, hsr, hsc, hsp, har, hac, hao, hab, hK⟩ := hA
  obtain ⟨hc, had, hjj, hoo⟩ := hF
  obtain ⟨hn1, hn9⟩ := te_n1 p
  have hn := hn9 hp
  have h6 : te_dec C (te_max p 1) 0 < 12 := by
    unfold te_dec
    split <;> omega
  refine ⟨_, _, ?_, te_xr68 hR hC hP hTB hB hK hp hq e0 e1, te_yr68 hR hC hP hTB hB hK hp hq hwt hc e0 e1⟩
  exact te_mk0 ⟨hR, h6, hP, hTB, hB, hin, hwr, hot, te_0, hsr, hsc, hsp, har, hac, hao, hab, hK⟩ ⟨hc, had, hjj, hoo⟩ (fun _ _ => rfl)
theorem te_run71 (hA : te_A R C P T B ins wr ot wt SR SC SP AR AC AO AB K) (hF : te_F ot ce ad aq) {p q : Nat} (hp : p ≤ 99) (hq : q ≤ 99) (e0 : nu 0 = nI p) (e1 : nu 1 = nI q) : ∃ u' v', te_R0 u' v' ∧ te_To (fun t => wpX_runPlain t ((nI R), (nI C), (nI P), (nI T), (nI B), ins, wr, ot, wt, (nI SR), (nI SC), (nI SP), (nI AR), (nI AC), (nI AO), (nI AB), (nI K), 0, 0, 0, (nI E), ce, ad, sh, kp, nu) 71) u' ∧ te_To (fun t => wpY_last t ((nI R), (nI C), (nI P), (nI T), (nI B), ins, wr, ot, wt, (nI SR), (nI SC), (nI SP), (nI AR), (nI AC), (nI AO), (nI AB), (nI K), 0, bg, 0, (nI (E + 1)), ce, sh, aq, kp, nu) 71) v' := by
  obtain ⟨hR, hC, hP, hTB, hB, hin, hwr, hot, hwt, hsr, hsc, hsp, har, hac, hao, hab, hK⟩ := hA
  obtain ⟨hc, had, hjj, hoo⟩ := hF
  obtain ⟨hn1, hn9⟩ := te_n1 p
  have hn := hn9 hp
  have h6 : te_min ((te_max p 1) - 1) 11 < 12 := Nat.lt_succ_of_le (te_minLe _ _)
  refine ⟨_, _, ?_, te_xr71 hR hC hP hTB hB hK hp hq e0 e1, te_yr71 hR hC hP hTB hB hK hp hq hwt hc e0 e1⟩
  exact te_mk0 ⟨hR, h6, hP, hTB, hB, hin, hwr, hot, te_0, hsr, hsc, hsp, har, hac, hao, hab, hK⟩ ⟨hc, had, hjj, hoo⟩ (fun _ _ => rfl)
theorem te_run100 (hA : te_A R C P T B ins wr ot wt SR SC SP AR AC AO AB K) (hF : te_F ot ce ad aq) {p q : Nat} (hp : p ≤ 99) (hq : q ≤ 99) (e0 : nu 0 = nI p) (e1 : nu 1 = nI q) : ∃ u' v', te_R0 u' v' ∧ te_To (fun t => wpX_runPlain t ((nI R), (nI C), (nI P), (nI T), (nI B), ins, wr, ot, wt, (nI SR), (nI SC), (nI SP), (nI AR), (nI AC), (nI AO), (nI AB), (nI K), 0, 0, 0, (nI E), ce, ad, sh, kp, nu) 100) u' ∧ te_To (fun t => wpY_last t ((nI R), (nI C), (nI P), (nI T), (nI B), ins, wr, ot, wt, (nI SR), (nI SC), (nI SP), (nI AR), (nI AC), (nI AO), (nI AB), (nI K), 0, bg, 0, (nI (E + 1)), ce, sh, aq, kp, nu) 100) v' := by
  obtain ⟨hR, hC, hP, hTB, hB, hin, hwr, hot, hwt, hsr, hsc, hsp, har, hac, hao, hab, hK⟩ := hA
  obtain ⟨hc, had, hjj, hoo⟩ := hF
  obtain ⟨hn1, hn9⟩ := te_n1 p
  have hn := hn9 hp
  have h6 : te_min ((te_max p 1) - 1) 5 < 6 := Nat.lt_succ_of_le (te_minLe _ _)
  refine ⟨_, _, ?_, te_xr100 hR hC hP hTB hB hK hp hq e0 e1, te_yr100 hR hC hP hTB hB hK hp hq hwt hc e0 e1⟩
  exact te_mk0 ⟨h6, hC, hP, hTB, hB, hin, hwr, hot, te_0, hsr, hsc, hsp, har, hac, hao, hab, hK⟩ ⟨hc, had, hjj, hoo⟩ (fun _ _ => rfl)
theorem te_run72 (hA : te_A R C P T B ins wr ot wt SR SC SP AR AC AO AB K) (hF : te_F ot ce ad aq) {p q : Nat} (hp : p ≤ 99) (hq : q ≤ 99) (e0 : nu 0 = nI p) (e1 : nu 1 = nI q) : ∃ u' v', te_R0 u' v' ∧ te_To (fun t => wpX_runPlain t ((nI R), (nI C), (nI P), (nI T), (nI B), ins, wr, ot, wt, (nI SR), (nI SC), (nI SP), (nI AR), (nI AC), (nI AO), (nI AB), (nI K), 0, 0, 0, (nI E), ce, ad, sh, kp, nu) 72) u' ∧ te_To (fun t => wpY_last t ((nI R), (nI C), (nI P), (nI T), (nI B), ins, wr, ot, wt, (nI SR), (nI SC), (nI SP), (nI AR), (nI AC), (nI AO), (nI AB), (nI K), 0, bg, 0, (nI (E + 1)), ce, sh, aq, kp, nu) 72) v' := by
  obtain ⟨hR, hC, hP, hTB, hB, hin, hwr, hot, hwt, hsr, hsc, hsp, har, hac, hao, hab, hK⟩ := hA
  obtain ⟨hc, had, hjj, hoo⟩ := hF
  obtain ⟨hn1, hn9⟩ := te_n1 p
  have hn := hn9 hp
  have h6 : te_min ((te_max p 1) - 1) 5 < 6 := Nat.lt_succ_of_le (te_minLe _ _)
  have h7 : te_min (te_max q 1 - 1) 11 < 12 := Nat.lt_succ_of_le (te_minLe _ _)
  refine ⟨_, _, ?_, te_xr72 hR hC hP hTB hB hK hp hq e0 e1, te_yr72 hR hC hP hTB hB hK hp hq hwt hc e0 e1⟩
  exact te_mk0 ⟨h6, h7, hP, hTB, hB, hin, hwr, hot, te_0, hsr, hsc, hsp, har, hac, hao, hab, hK⟩ ⟨hc, had, hjj, hoo⟩ (fun _ _ => rfl)
theorem te_run74 (hA : te_A R C P T B ins wr ot wt SR SC SP AR AC AO AB K) (hF : te_F ot ce ad aq) {p q : Nat} (hp : p ≤ 99) (hq : q ≤ 99) (e0 : nu 0 = nI p) (e1 : nu 1 = nI q) : ∃ u' v', te_R0 u' v' ∧ te_To (fun t => wpX_runPlain t ((nI R), (nI C), (nI P), (nI T), (nI B), ins, wr, ot, wt, (nI SR), (nI SC), (nI SP), (nI AR), (nI AC), (nI AO), (nI AB), (nI K), 0, 0, 0, (nI E), ce, ad, sh, kp, nu) 74) u' ∧ te_To (fun t => wpY_last t ((nI R), (nI C), (nI P), (nI T), (nI B), ins, wr, ot, wt, (nI SR), (nI SC), (nI SP), (nI AR), (nI AC), (nI AO), (nI AB), (nI K), 0, bg, 0, (nI (E + 1)), ce, sh, aq, kp, nu) 74) v' := by
  obtain ⟨hR, hC, hP, hTB, hB, hin, hwr, hot, hwt, hsr, hsc, hsp, har, hac, hao, hab, hK⟩ := hA
  obtain ⟨hc, had, hjj, hoo⟩ := hF
  obtain ⟨hn1, hn9⟩ := te_n1 p
  have hn := hn9 hp
  refine ⟨_, _, ?_, te_xr74 hR hC hP hTB hB hK hp hq e0 e1, te_yr74 hR hC hP hTB hB hK hp hq hwt hc e0 e1⟩
  exact te_mk0 ⟨hR, hC, hP, hTB, hB, hin, hwr, hot, te_0, hsr, hsc, hsp, har, hac, hao, hab, hK⟩ ⟨te_rgEr hc _ _ _ _, had, hjj, hoo⟩ (fun _ _ => rfl)
theorem te_run75 (hA : te_A R C P T B ins wr ot wt SR SC SP AR AC AO AB K) (hF : te_F ot ce ad aq) {p q : Nat} (hp : p ≤ 99) (hq : q ≤ 99) (e0 : nu 0 = nI p) (e1 : nu 1 = nI q) : ∃ u' v', te_R0 u' v' ∧ te_To (fun t => wpX_runPlain t ((nI R), (nI C), (nI P), (nI T), (nI B), ins, wr, ot, wt, (nI SR), (nI SC), (nI SP), (nI AR), (nI AC), (nI AO), (nI AB), (nI K), 0, 0, 0, (nI E), ce, ad, sh, kp, nu) 75) u' ∧ te_To (fun t => wpY_last t ((nI R), (nI C), (nI P), (nI T), (nI B), ins, wr, ot, wt, (nI SR), (nI SC), (nI SP), (nI AR), (nI AC), (nI AO), (nI AB), (nI K), 0, bg, 0, (nI (E + 1)), ce, sh, aq, kp, nu) 75) v' := by
  obtain ⟨hR, hC, hP, hTB, hB, hin, hwr, hot, hwt, hsr, hsc, hsp, har, hac, hao, hab, hK⟩ := hA
  obtain ⟨hc, had, hjj, hoo⟩ := hF
  obtain ⟨hn1, hn9⟩ := te_n1 p
  have hn := hn9 hp
  refine ⟨_, _, ?_, te_xr75 hR hC hP hTB hB hK hp hq e0 e1, te_yr75 hR hC hP hTB hB hK hp hq hwt hc e0 e1⟩
  exact te_mk0 ⟨hR, hC, hP, hTB, hB, hin, hwr, hot, te_0, hsr, hsc, hsp, har, hac, hao, hab, hK⟩ ⟨te_rgEr hc _ _ _ _, had, hjj, hoo⟩ (fun _ _ => rfl)
theorem te_run88 (hA : te_A R C P T B ins wr ot wt SR SC SP AR AC AO AB K) (hF : te_F ot ce ad aq) {p q : Nat} (hp : p ≤ 99) (hq : q ≤ 99) (e0 : nu 0 = nI p) (e1 : nu 1 = nI q) : ∃ u' v', te_R0 u' v' ∧ te_To (fun t => wpX_runPlain t ((nI R), (nI C), (nI P), (nI T), (nI B), ins, wr, ot, wt, (nI SR), (nI SC), (nI SP), (nI AR), (nI AC), (nI AO), (nI AB), (nI K), 0, 0, 0, (nI E), ce, ad, sh, kp, nu) 88) u' ∧ te_To (fun t => wpY_last t ((nI R), (nI C), (nI P), (nI T), (nI B), ins, wr, ot, wt, (nI SR), (nI SC), (nI SP), (nI AR), (nI AC), (nI AO), (nI AB), (nI K), 0, bg, 0, (nI (E + 1)), ce, sh, aq, kp, nu) 88) v' := by
  obtain ⟨hR, hC, hP, hTB, hB, hin, hwr, hot, hwt, hsr, hsc, hsp, har, hac, hao, hab, hK⟩ := hA
  obtain ⟨hc, had, hjj, hoo⟩ := hF
  obtain ⟨hn1, hn9⟩ := te_n1 p
  have hn := hn9 hp
  refine ⟨_, _, ?_, te_xr88 hR hC hP hTB hB hK hp hq e0 e1, te_yr88 hR hC hP hTB hB hK hp hq hwt hc e0 e1⟩
  exact te_mk0 ⟨hR, hC, hP, hTB, hB, hin, hwr, hot, te_0, hsr, hsc, hsp, har, hac, hao, hab, hK⟩ ⟨te_rgCl hc _ _, had, hjj, hoo⟩ (fun _ _ => rfl)
theorem te_run80 (hA : te_A R C P T B ins wr ot wt SR SC SP AR AC AO AB K) (hF : te_F ot ce ad aq) {p q : Nat} (hp : p ≤ 99) (hq : q ≤ 99) (e0 : nu 0 = nI p) (e1 : nu 1 = nI q) : ∃ u' v', te_R0 u' v' ∧ te_To (fun t => wpX_runPlain t ((nI R), (nI C), (nI P), (nI T), (nI B), ins, wr, ot, wt, (nI SR), (nI SC), (nI SP), (nI AR), (nI AC), (nI AO), (nI AB), (nI K), 0, 0, 0, (nI E), ce, ad, sh, kp, nu) 80) u' ∧ te_To (fun t => wpY_last t ((nI R), (nI C), (nI P), (nI T), (nI B), ins, wr, ot, wt, (nI SR), (nI SC), (nI SP), (nI AR), (nI AC), (nI AO), (nI AB), (nI K), 0, bg, 0, (nI (E + 1)), ce, sh, aq, kp, nu) 80) v' := by
  obtain ⟨hR, hC, hP, hTB, hB, hin, hwr, hot, hwt, hsr, hsc, hsp, har, hac, hao, hab, hK⟩ := hA
  obtain ⟨hc, had, hjj, hoo⟩ := hF
  obtain ⟨hn1, hn9⟩ := te_n1 p
  have hn := hn9 hp
  refine ⟨_, _, ?_, te_xr80 hR hC hP hTB hB hK hp hq e0 e1, te_yr80 hR hC hP hTB hB hK hp hq hwt hc e0 e1⟩
  exact te_mk0 ⟨hR, hC, hP, hTB, hB, hin, hwr, hot, te_0, hsr, hsc, hsp, har, hac, hao, hab, hK⟩ ⟨te_rgMb hc _ _ _, had, hjj, hoo⟩ (fun _ _ => rfl)
theorem te_run64 (hA : te_A R C P T B ins wr ot wt SR SC SP AR AC AO AB K) (hF : te_F ot ce ad aq) {p q : Nat} (hp : p ≤ 99) (hq : q ≤ 99) (e0 : nu 0 = nI p) (e1 : nu 1 = nI q) : ∃ u' v', te_R0 u' v' ∧ te_To (fun t => wpX_runPlain t ((nI R), (nI C), (nI P), (nI T), (nI B), ins, wr, ot, wt, (nI SR), (nI SC), (nI SP), (nI AR), (nI AC), (nI AO), (nI AB), (nI K), 0, 0, 0, (nI E), ce, ad, sh, kp, nu) 64) u' ∧ te_To (fun t => wpY_last t ((nI R), (nI C), (nI P), (nI T), (nI B), ins, wr, ot, wt, (nI SR), (nI SC), (nI SP), (nI AR), (nI AC), (nI AO), (nI AB), (nI K), 0, bg, 0, (nI (E + 1)), ce, sh, aq, kp, nu) 64) v' := by
  obtain ⟨hR, hC, hP, hTB, hB, hin, hwr, hot, hwt, hsr, hsc, hsp, har, hac, hao, hab, hK⟩ := hA
  obtain ⟨hc, had, hjj, hoo⟩ := hF
  obtain ⟨hn1, hn9⟩ := te_n1 p
  have hn := hn9 hp
  refine ⟨_, _, ?_, te_xr64 hR hC hP hTB hB hK hp hq e0 e1, te_yr64 hR hC hP hTB hB hK hp hq hwt hc e0 e1⟩
  exact te_mk0 ⟨hR, hC, hP, hTB, hB, hin, hwr, hot, te_0, hsr, hsc, hsp, har, hac, hao, hab, hK⟩ ⟨te_rgMo hc _ _ _, had, hjj, hoo⟩ (fun _ _ => rfl)
theorem te_run76 (hA : te_A R C P T B ins wr ot wt SR SC SP AR AC AO AB K) (hF : te_F ot ce ad aq) {p q : Nat} (hp : p ≤ 99) (hq : q ≤ 99) (e0 : nu 0 = nI p) (e1 : nu 1 = nI q) : ∃ u' v', te_R0 u' v' ∧ te_To (fun t => wpX_runPlain t ((nI R), (nI C), (nI P), (nI T), (nI B), ins, wr, ot, wt, (nI SR), (nI SC), (nI SP), (nI AR), (nI AC), (nI AO), (nI AB), (nI K), 0, 0, 0, (nI E), ce, ad, sh, kp, nu) 76) u' ∧ te_To (fun t => wpY_last t ((nI R), (nI C), (nI P), (nI T), (nI B), ins, wr, ot, wt, (nI SR), (nI SC), (nI SP), (nI AR), (nI AC), (nI AO), (nI AB), (nI K), 0, bg, 0, (nI (E + 1)), ce, sh, aq, kp, nu) 76) v' := by
  obtain ⟨hR, hC, hP, hTB, hB, hin, hwr, hot, hwt, hsr, hsc, hsp, har, hac, hao, hab, hK⟩ := hA
  obtain ⟨hc, had, hjj, hoo⟩ := hF
  obtain ⟨hn1, hn9⟩ := te_n1 p
  have hn := hn9 hp
  by_cases hO : R < T ∨ B < R
  · refine ⟨_, _, ?_, te_xr76o hR hC hP hTB hB hK hp hq e0 e1 hO, te_yr76o hR hC hP hTB hB hK hp hq hwt hc e0 e1 hO⟩
    exact te_mk0 ⟨hR, hC, hP, hTB, hB, hin, hwr, hot, te_0, hsr, hsc, hsp, har, hac, hao, hab, hK⟩ ⟨hc, had, hjj, hoo⟩ (fun _ _ => rfl)
  · have hT : T ≤ R := by omega
    have hRB : R ≤ B := by omega
    refine ⟨_, _, ?_, te_xr76 hR hC hP hTB hB hK hp hq e0 e1 hT hRB, te_yr76 hR hC hP hTB hB hK hp hq hwt hc e0 e1 hT hRB⟩
    exact te_mk0 (C := 0) ⟨hR, (by omega), hP, hTB, hB, hin, hwr, hot, te_0, hsr, hsc, hsp, har, hac, hao, hab, hK⟩ ⟨te_rgMo hc _ _ _, had, hjj, hoo⟩ (fun _ _ => rfl)
theorem te_run77 (hA : te_A R C P T B ins wr ot wt SR SC SP AR AC AO AB K) (hF : te_F ot ce ad aq) {p q : Nat} (hp : p ≤ 99) (hq : q ≤ 99) (e0 : nu 0 = nI p) (e1 : nu 1 = nI q) : ∃ u' v', te_R0 u' v' ∧ te_To (fun t => wpX_runPlain t ((nI R), (nI C), (nI P), (nI T), (nI B), ins, wr, ot, wt, (nI SR), (nI SC), (nI SP), (nI AR), (nI AC), (nI AO), (nI AB), (nI K), 0, 0, 0, (nI E), ce, ad, sh, kp, nu) 77) u' ∧ te_To (fun t => wpY_last t ((nI R), (nI C), (nI P), (nI T), (nI B), ins, wr, ot, wt, (nI SR), (nI SC), (nI SP), (nI AR), (nI AC), (nI AO), (nI AB), (nI K), 0, bg, 0, (nI (E + 1)), ce, sh, aq, kp, nu) 77) v' := by
  obtain ⟨hR, hC, hP, hTB, hB, hin, hwr, hot, hwt, hsr, hsc, hsp, har, hac, hao, hab, hK⟩ := hA
  obtain ⟨hc, had, hjj, hoo⟩ := hF
  obtain ⟨hn1, hn9⟩ := te_n1 p
  have hn := hn9 hp
  by_cases hO : R < T ∨ B < R
  · refine ⟨_, _, ?_, te_xr77o hR hC hP hTB hB hK hp hq e0 e1 hO, te_yr77o hR hC hP hTB hB hK hp hq hwt hc e0 e1 hO⟩
    exact te_mk0 ⟨hR, hC, hP, hTB, hB, hin, hwr, hot, te_0, hsr, hsc, hsp, har, hac, hao, hab, hK⟩ ⟨hc, had, hjj, hoo⟩ (fun _ _ => rfl)
  · have hT : T ≤ R := by omega
    have hRB : R ≤ B := by omega
    refine ⟨_, _, ?_, te_xr77 hR hC hP hTB hB hK hp hq e0 e1 hT hRB, te_yr77 hR hC hP hTB hB hK hp hq hwt hc e0 e1 hT hRB⟩
    exact te_mk0 (C := 0) ⟨hR, (by omega), hP, hTB, hB, hin, hwr, hot, te_0, hsr, hsc, hsp, har, hac, hao, hab, hK⟩ ⟨te_rgMb hc _ _ _, had, hjj, hoo⟩ (fun _ _ => rfl)
theorem te_run83 (hA : te_A R C P T B ins wr ot wt SR SC SP AR AC AO AB K) (hF : te_F ot ce ad aq) {p q : Nat} (hp : p ≤ 99) (hq : q ≤ 99) (e0 : nu 0 = nI p) (e1 : nu 1 = nI q) : ∃ u' v', te_R0 u' v' ∧ te_To (fun t => wpX_runPlain t ((nI R), (nI C), (nI P), (nI T), (nI B), ins, wr, ot, wt, (nI SR), (nI SC), (nI SP), (nI AR), (nI AC), (nI AO), (nI AB), (nI K), 0, 0, 0, (nI E), ce, ad, sh, kp, nu) 83) u' ∧ te_To (fun t => wpY_last t ((nI R), (nI C), (nI P), (nI T), (nI B), ins, wr, ot, wt, (nI SR), (nI SC), (nI SP), (nI AR), (nI AC), (nI AO), (nI AB), (nI K), 0, bg, 0, (nI (E + 1)), ce, sh, aq, kp, nu) 83) v' := by
  obtain ⟨hR, hC, hP, hTB, hB, hin, hwr, hot, hwt, hsr, hsc, hsp, har, hac, hao, hab, hK⟩ := hA
  obtain ⟨hc, had, hjj, hoo⟩ := hF
  obtain ⟨hn1, hn9⟩ := te_n1 p
  have hn := hn9 hp
  have hk := te_snOk (q := te_q ot T) (T := T) (B := B) (te_max p 1) K ce kp hK hc
  refine ⟨_, _, ?_, te_xr83 hR hC hP hTB hB hK hp hq e0 e1, te_yr83 hR hC hP hTB hB hK hp hq hwt hc e0 e1⟩
  exact te_mk0 ⟨hR, hC, hP, hTB, hB, hin, hwr, hot, te_0, hsr, hsc, hsp, har, hac, hao, hab, hk.1⟩ ⟨hk.2, had, hjj, hoo⟩ (fun _ _ => rfl)
theorem te_run84 (hA : te_A R C P T B ins wr ot wt SR SC SP AR AC AO AB K) (hF : te_F ot ce ad aq) {p q : Nat} (hp : p ≤ 99) (hq : q ≤ 99) (e0 : nu 0 = nI p) (e1 : nu 1 = nI q) : ∃ u' v', te_R0 u' v' ∧ te_To (fun t => wpX_runPlain t ((nI R), (nI C), (nI P), (nI T), (nI B), ins, wr, ot, wt, (nI SR), (nI SC), (nI SP), (nI AR), (nI AC), (nI AO), (nI AB), (nI K), 0, 0, 0, (nI E), ce, ad, sh, kp, nu) 84) u' ∧ te_To (fun t => wpY_last t ((nI R), (nI C), (nI P), (nI T), (nI B), ins, wr, ot, wt, (nI SR), (nI SC), (nI SP), (nI AR), (nI AC), (nI AO), (nI AB), (nI K), 0, bg, 0, (nI (E + 1)), ce, sh, aq, kp, nu) 84) v' := by
  obtain ⟨hR, hC, hP, hTB, hB, hin, hwr, hot, hwt, hsr, hsc, hsp, har, hac, hao, hab, hK⟩ := hA
  obtain ⟨hc, had, hjj, hoo⟩ := hF
  obtain ⟨hn1, hn9⟩ := te_n1 p
  have hn := hn9 hp
  refine ⟨_, _, ?_, te_xr84 hR hC hP hTB hB hK hp hq e0 e1, te_yr84 hR hC hP hTB hB hK hp hq hwt hc e0 e1⟩
  exact te_mk0 ⟨hR, hC, hP, hTB, hB, hin, hwr, hot, te_0, hsr, hsc, hsp, har, hac, hao, hab, hK⟩ ⟨te_rgMo hc _ _ _, had, hjj, hoo⟩ (fun _ _ => rfl)
theorem te_run114 (hA : te_A R C P T B ins wr ot wt SR SC SP AR AC AO AB K) (hF : te_F ot ce ad aq) {p q : Nat} (hp : p ≤ 99) (hq : q ≤ 99) (e0 : nu 0 = nI p) (e1 : nu 1 = nI q) : ∃ u' v', te_R0 u' v' ∧ te_To (fun t => wpX_runPlain t ((nI R), (nI C), (nI P), (nI T), (nI B), ins, wr, ot, wt, (nI SR), (nI SC), (nI SP), (nI AR), (nI AC), (nI AO), (nI AB), (nI K), 0, 0, 0, (nI E), ce, ad, sh, kp, nu) 114) u' ∧ te_To (fun t => wpY_last t ((nI R), (nI C), (nI P), (nI T), (nI B), ins, wr, ot, wt, (nI SR), (nI SC), (nI SP), (nI AR), (nI AC), (nI AO), (nI AB), (nI K), 0, bg, 0, (nI (E + 1)), ce, sh, aq, kp, nu) 114) v' := by
  obtain ⟨hR, hC, hP, hTB, hB, hin, hwr, hot, hwt, hsr, hsc, hsp, har, hac, hao, hab, hK⟩ := hA
  obtain ⟨hc, had, hjj, hoo⟩ := hF
  obtain ⟨hn1, hn9⟩ := te_n1 p
  have hn := hn9 hp
  by_cases hO : te_q6 q ≤ (te_max p 1) ∨ 6 < te_q6 q
  · refine ⟨_, _, ?_, te_xr114o hR hC hP hTB hB hK hp hq e0 e1 hO, te_yr114o hR hC hP hTB hB hK hp hq hwt hc e0 e1 hO⟩
    exact te_mk0 ⟨hR, hC, hP, hTB, hB, hin, hwr, hot, te_0, hsr, hsc, hsp, har, hac, hao, hab, hK⟩ ⟨hc, had, hjj, hoo⟩ (fun _ _ => rfl)
  · have h1 : (te_max p 1) < te_q6 q := by omega
    have h6 : te_q6 q ≤ 6 := by omega
    refine ⟨_, _, ?_, te_xr114 hR hC hP hTB hB hK hp hq e0 e1 h1 h6, te_yr114 hR hC hP hTB hB hK hp hq hwt hc e0 e1 h1 h6⟩
    exact te_mk0 (R := 0) (C := 0) ⟨(by omega), (by omega), hP, (by omega), (by omega), hin, hwr, hot, te_0, hsr, hsc, hsp, har, hac, hao, hab, hK⟩ ⟨hc, had, hjj, hoo⟩ (fun _ _ => rfl)
theorem te_run104 (hA : te_A R C P T B ins wr ot wt SR SC SP AR AC AO AB K) (hF : te_F ot ce ad aq) {p q : Nat} (hp : p ≤ 99) (hq : q ≤ 99) (e0 : nu 0 = nI p) (e1 : nu 1 = nI q) : ∃ u' v', te_R0 u' v' ∧ te_To (fun t => wpX_runPlain t ((nI R), (nI C), (nI P), (nI T), (nI B), ins, wr, ot, wt, (nI SR), (nI SC), (nI SP), (nI AR), (nI AC), (nI AO), (nI AB), (nI K), 0, 0, 0, (nI E), ce, ad, sh, kp, nu) 104) u' ∧ te_To (fun t => wpY_last t ((nI R), (nI C), (nI P), (nI T), (nI B), ins, wr, ot, wt, (nI SR), (nI SC), (nI SP), (nI AR), (nI AC), (nI AO), (nI AB), (nI K), 0, bg, 0, (nI (E + 1)), ce, sh, aq, kp, nu) 104) v' := by
  obtain ⟨hR, hC, hP, hTB, hB, hin, hwr, hot, hwt, hsr, hsc, hsp, har, hac, hao, hab, hK⟩ := hA
  obtain ⟨hc, had, hjj, hoo⟩ := hF
  obtain ⟨hn1, hn9⟩ := te_n1 p
  have hn := hn9 hp
  by_cases h4 : p = 4
  · refine ⟨_, _, ?_, te_xr104 hR hC hP hTB hB hK hp hq e0 e1 h4, te_yr104 hR hC hP hTB hB hK hp hq hwt hc e0 e1 hin hwr h4⟩
    exact te_mk0 ⟨hR, hC, hP, hTB, hB, te_1, hwr, hot, hwt, hsr, hsc, hsp, har, hac, hao, hab, hK⟩ ⟨hc, had, hjj, hoo⟩ (fun _ _ => rfl)
  · refine ⟨_, _, ?_, te_xr104o hR hC hP hTB hB hK hp hq e0 e1 h4, te_yr104o hR hC hP hTB hB hK hp hq hwt hc e0 e1 hin hwr h4⟩
    exact te_mk0 ⟨hR, hC, hP, hTB, hB, hin, hwr, hot, hwt, hsr, hsc, hsp, har, hac, hao, hab, hK⟩ ⟨hc, had, hjj, hoo⟩ (fun _ _ => rfl)
theorem te_run108 (hA : te_A R C P T B ins wr ot wt SR SC SP AR AC AO AB K) (hF : te_F ot ce ad aq) {p q : Nat} (hp : p ≤ 99) (hq : q ≤ 99) (e0 : nu 0 = nI p) (e1 : nu 1 = nI q) : ∃ u' v', te_R0 u' v' ∧ te_To (fun t => wpX_runPlain t ((nI R), (nI C), (nI P), (nI T), (nI B), ins, wr, ot, wt, (nI SR), (nI SC), (nI SP), (nI AR), (nI AC), (nI AO), (nI AB), (nI K), 0, 0, 0, (nI E), ce, ad, sh, kp, nu) 108) u' ∧ te_To (fun t => wpY_last t ((nI R), (nI C), (nI P), (nI T), (nI B), ins, wr, ot, wt, (nI SR), (nI SC), (nI SP), (nI AR), (nI AC), (nI AO), (nI AB), (nI K), 0, bg, 0, (nI (E + 1)), ce, sh, aq, kp, nu) 108) v' := by
  obtain ⟨hR, hC, hP, hTB, hB, hin, hwr, hot, hwt, hsr, hsc, hsp, har, hac, hao, hab, hK⟩ := hA
  obtain ⟨hc, had, hjj, hoo⟩ := hF
  obtain ⟨hn1, hn9⟩ := te_n1 p
  have hn := hn9 hp
  by_cases h4 : p = 4
  · refine ⟨_, _, ?_, te_xr108 hR hC hP hTB hB hK hp hq e0 e1 h4, te_yr108 hR hC hP hTB hB hK hp hq hwt hc e0 e1 hin hwr h4⟩
    exact te_mk0 ⟨hR, hC, hP, hTB, hB, te_0, hwr, hot, hwt, hsr, hsc, hsp, har, hac, hao, hab, hK⟩ ⟨hc, had, hjj, hoo⟩ (fun _ _ => rfl)
  · refine ⟨_, _, ?_, te_xr108o hR hC hP hTB hB hK hp hq e0 e1 h4, te_yr108o hR hC hP hTB hB hK hp hq hwt hc e0 e1 hin hwr h4⟩
    exact te_mk0 ⟨hR, hC, hP, hTB, hB, hin, hwr, hot, hwt, hsr, hsc, hsp, har, hac, hao, hab, hK⟩ ⟨hc, had, hjj, hoo⟩ (fun _ _ => rfl)
theorem te_run109 (hA : te_A R C P T B ins wr ot wt SR SC SP AR AC AO AB K) (hF : te_F ot ce ad aq) {p q : Nat} (hp : p ≤ 99) (hq : q ≤ 99) (e0 : nu 0 = nI p) (e1 : nu 1 = nI q) {v : Nat → Nat} (hE : E ≤ 4) (hv : ∀ j, j < 4 → v j ≤ 99 ∧ nu j = nI (v j)) : ∃ u' v', te_R0 u' v' ∧ te_To (fun t => wpX_runPlain t ((nI R), (nI C), (nI P), (nI T), (nI B), ins, wr, ot, wt, (nI SR), (nI SC), (nI SP), (nI AR), (nI AC), (nI AO), (nI AB), (nI K), 0, 0, 0, (nI E), ce, ad, sh, kp, nu) 109) u' ∧ te_To (fun t => wpY_last t ((nI R), (nI C), (nI P), (nI T), (nI B), ins, wr, ot, wt, (nI SR), (nI SC), (nI SP), (nI AR), (nI AC), (nI AO), (nI AB), (nI K), 0, bg, 0, (nI (E + 1)), ce, sh, aq, kp, nu) 109) v' := by
  obtain ⟨hR, hC, hP, hTB, hB, hin, hwr, hot, hwt, hsr, hsc, hsp, har, hac, hao, hab, hK⟩ := hA
  obtain ⟨hc, had, hjj, hoo⟩ := hF
  refine ⟨_, _, ?_, te_xr109 hR hC hP hTB hB hK hp hq e0 e1 hE hv, te_yr109 hR hC hP hTB hB hK hp hq hwt hc e0 e1 hE hv⟩
  exact te_mk0 ⟨hR, hC, te_pp8 v _ _ _ hP, hTB, hB, hin, hwr, hot, hwt, hsr, hsc, hsp, har, hac, hao, hab, hK⟩ ⟨hc, had, hjj, hoo⟩ (fun _ _ => rfl)
theorem te_run (hA : te_A R C P T B ins wr ot wt SR SC SP AR AC AO AB K) (hF : te_F ot ce ad aq) {p q : Nat} (hp : p ≤ 99) (hq : q ≤ 99) (e0 : nu 0 = nI p) (e1 : nu 1 = nI q) {v : Nat → Nat} (hE : E ≤ 4) (hv : ∀ j, j < 4 → v j ≤ 99 ∧ nu j = nI (v j)) (b : Nat) (hb : b < 128) : ∃ u' v', te_R0 u' v' ∧ te_To (fun t => wpX_runPlain t ((nI R), (nI C), (nI P), (nI T), (nI B), ins, wr, ot, wt, (nI SR), (nI SC), (nI SP), (nI AR), (nI AC), (nI AO), (nI AB), (nI K), 0, 0, 0, (nI E), ce, ad, sh, kp, nu) (nI b)) u' ∧ te_To (fun t => wpY_last t ((nI R), (nI C), (nI P), (nI T), (nI B), ins, wr, ot, wt, (nI SR), (nI SC), (nI SP), (nI AR), (nI AC), (nI AO), (nI AB), (nI K), 0, bg, 0, (nI (E + 1)), ce, sh, aq, kp, nu) (nI b)) v' := by
  by_cases h64 : b = 64
  · subst h64
    exact te_run64 hA hF hp hq e0 e1
  by_cases h65 : b = 65
  · subst h65
    exact te_run65 hA hF hp hq e0 e1
  by_cases h66 : b = 66
  · subst h66
    exact te_run66 hA hF hp hq e0 e1
  by_cases h67 : b = 67
  · subst h67
    exact te_run67 hA hF hp hq e0 e1
  by_cases h68 : b = 68
  · subst h68
    exact te_run68 hA hF hp hq e0 e1
  by_cases h71 : b = 71
  · subst h71
    exact te_run71 hA hF hp hq e0 e1
  by_cases h72 : b = 72
  · subst h72
    exact te_run72 hA hF hp hq e0 e1
  by_cases h74 : b = 74
  · subst h74
    exact te_run74 hA hF hp hq e0 e1
  by_cases h75 : b = 75
  · subst h75
    exact te_run75 hA hF hp hq e0 e1
  by_cases h76 : b = 76
  · subst h76
    exact te_run76 hA hF hp hq e0 e1
  by_cases h77 : b = 77
  · subst h77
    exact te_run77 hA hF hp hq e0 e1
  by_cases h80 : b = 80
  · subst h80
    exact te_run80 hA hF hp hq e0 e1
  by_cases h83 : b = 83
  · subst h83
    exact te_run83 hA hF hp hq e0 e1
  by_cases h84 : b = 84
  · subst h84
    exact te_run84 hA hF hp hq e0 e1
  by_cases h88 : b = 88
  · subst h88
    exact te_run88 hA hF hp hq e0 e1
  by_cases h100 : b = 100
  · subst h100
    exact te_run100 hA hF hp hq e0 e1
  by_cases h104 : b = 104
  · subst h104
    exact te_run104 hA hF hp hq e0 e1
  by_cases h108 : b = 108
  · subst h108
    exact te_run108 hA hF hp hq e0 e1
  by_cases h109 : b = 109
  · subst h109
    exact te_run109 hA hF hp hq e0 e1 hE hv
  by_cases h114 : b = 114
  · subst h114
    exact te_run114 hA hF hp hq e0 e1
  have g64 : ¬ nI b = 64 := te_ne (b := 64) h64 (by omega) (by omega)
  have g65 : ¬ nI b = 65 := te_ne (b := 65) h65 (by omega) (by omega)
  have g66 : ¬ nI b = 66 := te_ne (b := 66) h66 (by omega) (by omega)
  have g67 : ¬ nI b = 67 := te_ne (b := 67) h67 (by omega) (by omega)
  have g68 : ¬ nI b = 68 := te_ne (b := 68) h68 (by omega) (by omega)
  have g71 : ¬ nI b = 71 := te_ne (b := 71) h71 (by omega) (by omega)
  have g72 : ¬ nI b = 72 := te_ne (b := 72) h72 (by omega) (by omega)
  have g74 : ¬ nI b = 74 := te_ne (b := 74) h74 (by omega) (by omega)
  have g75 : ¬ nI b = 75 := te_ne (b := 75) h75 (by omega) (by omega)
  have g76 : ¬ nI b = 76 := te_ne (b := 76) h76 (by omega) (by omega)
  have g77 : ¬ nI b = 77 := te_ne (b := 77) h77 (by omega) (by omega)
  have g80 : ¬ nI b = 80 := te_ne (b := 80) h80 (by omega) (by omega)
  have g83 : ¬ nI b = 83 := te_ne (b := 83) h83 (by omega) (by omega)
  have g84 : ¬ nI b = 84 := te_ne (b := 84) h84 (by omega) (by omega)
  have g88 : ¬ nI b = 88 := te_ne (b := 88) h88 (by omega) (by omega)
  have g100 : ¬ nI b = 100 := te_ne (b := 100) h100 (by omega) (by omega)
  have g104 : ¬ nI b = 104 := te_ne (b := 104) h104 (by omega) (by omega)
  have g108 : ¬ nI b = 108 := te_ne (b := 108) h108 (by omega) (by omega)
  have g109 : ¬ nI b = 109 := te_ne (b := 109) h109 (by omega) (by omega)
  have g114 : ¬ nI b = 114 := te_ne (b := 114) h114 (by omega) (by omega)
  have hlo : ¬ nI b < 65 → ¬ nI b ≤ 68 := by
    intro h1 h2
    have h3 : ¬ b < 65 := fun z => h1 (nI_lt (b := 65) z (by omega))
    have h4 : b ≤ 68 := (nI_leI (b := 68) (by omega) (by omega)).mp h2
    omega
  obtain ⟨hR, hC, hP, hTB, hB, hin, hwr, hot, hwt, hsr, hsc, hsp, har, hac, hao, hab, hK⟩ := hA
  obtain ⟨hc, had, hjj, hoo⟩ := hF
  refine ⟨_, _, ?_, te_xrN hR hC hP hTB hB hK hp hq e0 e1 g64 g65 g66 g67 g68 g71 g72 g74 g75 g76 g77 g80 g83 g84 g88 g100 g104 g108 g109 g114, te_yrN hR hC hP hTB hB hK hp hq hwt hc e0 e1 g64 g65 g66 g67 g68 g71 g72 g74 g75 g76 g77 g80 g83 g84 g88 g100 g114 g104 g108 g109 hlo⟩
  exact te_mk0 ⟨hR, hC, hP, hTB, hB, hin, hwr, hot, hwt, hsr, hsc, hsp, har, hac, hao, hab, hK⟩ ⟨hc, had, hjj, hoo⟩ (fun _ _ => rfl)
end
end
section
/-! both sides at each last byte, with ? -/
section
variable {R C P T B SR SC SP AR AC AO AB K : Nat} {ins wr ot wt se bg mn : Int32} {ce ad aq sh kp nu : Nat → Int32}
theorem te_xm104w {p : Nat} (hp : p ≤ 99) (e0 : nu 0 = nI p) (h7 : p = 7) : te_To (fun t => wpX_runMarked t ((nI R), (nI C), (nI P), (nI T), (nI B), ins, wr, ot, wt, (nI SR), (nI SC), (nI SP), (nI AR), (nI AC), (nI AO), (nI AB), (nI K), 0, 0, 1, se, ce, ad, sh, kp, nu) 104) ((nI R), (nI C), (nI P), (nI T), (nI B), ins, 1, ot, wt, (nI SR), (nI SC), (nI SP), (nI AR), (nI AC), (nI AO), (nI AB), (nI K), 0, 0, 1, se, ce, ad, sh, kp, nu) := by
  intro post h
  have h0 : nu 0 = 7 := e0.trans (congrArg nI h7)
  exact br_t rfl (br_t rfl (br_t h0 (And.intro (te_nb te_1) (And.intro (te_fb te_1) h))))
theorem te_ym104w {p : Nat} (hp : p ≤ 99) (e0 : nu 0 = nI p) (hin : te_b01 ins) (h7 : p = 7) : te_To (fun t => wpY_last t ((nI R), (nI C), (nI P), (nI T), (nI B), ins, wr, ot, wt, (nI SR), (nI SC), (nI SP), (nI AR), (nI AC), (nI AO), (nI AB), (nI K), 0, bg, 1, mn, ce, sh, aq, kp, nu) 104) ((nI R), (nI C), (nI P), (nI T), (nI B), ins, 1, ot, wt, (nI SR), (nI SC), (nI SP), (nI AR), (nI AC), (nI AO), (nI AB), (nI K), 0, bg, 1, mn, ce, sh, aq, kp, nu) := by
  intro post h
  refine nm_r e0 (br_t rfl (br_t rfl (br_f te_10 ?_)))
  exact And.intro (te_nb hin) (And.intro (te_fb hin) (br_f te_10 (br_t (congrArg nI h7) (And.intro (te_nb te_1) (And.intro (te_fb te_1) (br_f te_10 (br_f (te_ne (b := 49) (by omega) (by omega) (by omega)) h)))))))
theorem te_xm104o {p : Nat} (hp : p ≤ 99) (e0 : nu 0 = nI p) (h7 : p ≠ 7) (h49 : p ≠ 49 ∨ ot = 1) : te_To (fun t => wpX_runMarked t ((nI R), (nI C), (nI P), (nI T), (nI B), ins, wr, ot, wt, (nI SR), (nI SC), (nI SP), (nI AR), (nI AC), (nI AO), (nI AB), (nI K), 0, 0, 1, se, ce, ad, sh, kp, nu) 104) ((nI R), (nI C), (nI P), (nI T), (nI B), ins, wr, ot, wt, (nI SR), (nI SC), (nI SP), (nI AR), (nI AC), (nI AO), (nI AB), (nI K), 0, 0, 1, se, ce, ad, sh, kp, nu) := by
  intro post h
  have h0 : ¬ nu 0 = 7 := by rw [e0]; exact te_ne (b := 7) h7 (by omega) (by omega)
  refine br_t rfl (br_t rfl (br_f h0 ?_))
  by_cases z : p = 49
  · exact br_t (e0.trans (congrArg nI z)) (br_t (h49.resolve_left (fun y => y z)).symm h)
  · exact br_f (by rw [e0]; exact te_ne (b := 49) z (by omega) (by omega)) h
theorem te_ym104o {p : Nat} (hp : p ≤ 99) (e0 : nu 0 = nI p) (hin : te_b01 ins) (hwr : te_b01 wr) (h7 : p ≠ 7) (h49 : p ≠ 49 ∨ ot = 1) : te_To (fun t => wpY_last t ((nI R), (nI C), (nI P), (nI T), (nI B), ins, wr, ot, wt, (nI SR), (nI SC), (nI SP), (nI AR), (nI AC), (nI AO), (nI AB), (nI K), 0, bg, 1, mn, ce, sh, aq, kp, nu) 104) ((nI R), (nI C), (nI P), (nI T), (nI B), ins, wr, ot, wt, (nI SR), (nI SC), (nI SP), (nI AR), (nI AC), (nI AO), (nI AB), (nI K), 0, bg, 1, mn, ce, sh, aq, kp, nu) := by
  intro post h
  refine nm_r e0 (br_t rfl (br_t rfl (br_f te_10 ?_)))
  refine And.intro (te_nb hin) (And.intro (te_fb hin) (br_f te_10 (br_f (te_ne (b := 7) h7 (by omega) (by omega)) (And.intro (te_nb hwr) (And.intro (te_fb hwr) (br_f te_10 ?_))))))
  by_cases z : p = 49
  · exact br_t (congrArg nI z) (br_t (h49.resolve_left (fun y => y z)).symm h)
  · exact br_f (te_ne (b := 49) z (by omega) (by omega)) h
theorem te_xm108w {p : Nat} (hp : p ≤ 99) (e0 : nu 0 = nI p) (h7 : p = 7) : te_To (fun t => wpX_runMarked t ((nI R), (nI C), (nI P), (nI T), (nI B), ins, wr, ot, wt, (nI SR), (nI SC), (nI SP), (nI AR), (nI AC), (nI AO), (nI AB), (nI K), 0, 0, 1, se, ce, ad, sh, kp, nu) 108) ((nI R), (nI C), (nI P), (nI T), (nI B), ins, 0, ot, wt, (nI SR), (nI SC), (nI SP), (nI AR), (nI AC), (nI AO), (nI AB), (nI K), 0, 0, 1, se, ce, ad, sh, kp, nu) := by
  intro post h
  have h0 : nu 0 = 7 := e0.trans (congrArg nI h7)
  exact br_f (by decide) (br_t rfl (br_f (by decide) (br_t h0 (And.intro (te_nb te_0) (And.intro (te_fb te_0) h)))))
theorem te_ym108w {p : Nat} (hp : p ≤ 99) (e0 : nu 0 = nI p) (hin : te_b01 ins) (h7 : p = 7) : te_To (fun t => wpY_last t ((nI R), (nI C), (nI P), (nI T), (nI B), ins, wr, ot, wt, (nI SR), (nI SC), (nI SP), (nI AR), (nI AC), (nI AO), (nI AB), (nI K), 0, bg, 1, mn, ce, sh, aq, kp, nu) 108) ((nI R), (nI C), (nI P), (nI T), (nI B), ins, 0, ot, wt, (nI SR), (nI SC), (nI SP), (nI AR), (nI AC), (nI AO), (nI AB), (nI K), 0, bg, 1, mn, ce, sh, aq, kp, nu) := by
  intro post h
  refine nm_r e0 (br_f (by decide) (br_f (by decide) (br_t rfl (br_f te_10 ?_))))
  exact And.intro (te_nb hin) (And.intro (te_fb hin) (br_f te_10 (br_t (congrArg nI h7) (And.intro (te_nb te_0) (And.intro (te_fb te_0) (br_f te_10 (br_f (te_ne (b := 49) (by omega) (by omega) (by omega)) h)))))))
theorem te_xm108o {p : Nat} (hp : p ≤ 99) (e0 : nu 0 = nI p) (h7 : p ≠ 7) (h49 : p ≠ 49 ∨ ot = 0) : te_To (fun t => wpX_runMarked t ((nI R), (nI C), (nI P), (nI T), (nI B), ins, wr, ot, wt, (nI SR), (nI SC), (nI SP), (nI AR), (nI AC), (nI AO), (nI AB), (nI K), 0, 0, 1, se, ce, ad, sh, kp, nu) 108) ((nI R), (nI C), (nI P), (nI T), (nI B), ins, wr, ot, wt, (nI SR), (nI SC), (nI SP), (nI AR), (nI AC), (nI AO), (nI AB), (nI K), 0, 0, 1, se, ce, ad, sh, kp, nu) := by
  intro post h
  have h0 : ¬ nu 0 = 7 := by rw [e0]; exact te_ne (b := 7) h7 (by omega) (by omega)
  refine br_f (by decide) (br_t rfl (br_f (by decide) (br_f h0 ?_)))
  by_cases z : p = 49
  · exact br_t (e0.trans (congrArg nI z)) (br_t (h49.resolve_left (fun y => y z)).symm h)
  · exact br_f (by rw [e0]; exact te_ne (b := 49) z (by omega) (by omega)) h
theorem te_ym108o {p : Nat} (hp : p ≤ 99) (e0 : nu 0 = nI p) (hin : te_b01 ins) (hwr : te_b01 wr) (h7 : p ≠ 7) (h49 : p ≠ 49 ∨ ot = 0) : te_To (fun t => wpY_last t ((nI R), (nI C), (nI P), (nI T), (nI B), ins, wr, ot, wt, (nI SR), (nI SC), (nI SP), (nI AR), (nI AC), (nI AO), (nI AB), (nI K), 0, bg, 1, mn, ce, sh, aq, kp, nu) 108) ((nI R), (nI C), (nI P), (nI T), (nI B), ins, wr, ot, wt, (nI SR), (nI SC), (nI SP), (nI AR), (nI AC), (nI AO), (nI AB), (nI K), 0, bg, 1, mn, ce, sh, aq, kp, nu) := by
  intro post h
  refine nm_r e0 (br_f (by decide) (br_f (by decide) (br_t rfl (br_f te_10 ?_))))
  refine And.intro (te_nb hin) (And.intro (te_fb hin) (br_f te_10 (br_f (te_ne (b := 7) h7 (by omega) (by omega)) (And.intro (te_nb hwr) (And.intro (te_fb hwr) (br_f te_10 ?_))))))
  by_cases z : p = 49
  · exact br_t (congrArg nI z) (br_t (h49.resolve_left (fun y => y z)).symm h)
  · exact br_f (te_ne (b := 49) z (by omega) (by omega)) h
theorem te_xm104x {p : Nat} (hp : p ≤ 99) (e0 : nu 0 = nI p) (h49 : p = 49) (h0 : ot = 0) : te_To (fun t => wpX_runMarked t ((nI R), (nI C), (nI P), (nI T), (nI B), ins, wr, ot, wt, (nI SR), (nI SC), (nI SP), (nI AR), (nI AC), (nI AO), (nI AB), (nI K), 0, 0, 1, se, ce, ad, sh, kp, nu) 104) (0, 0, (nI P), 0, 5, ins, wr, 1, 0, (nI SR), (nI SC), (nI SP), (nI R), (nI C), (nI T), (nI B), (nI K), 0, 0, 1, se, (te_cl ce 0 72), (te_cp ce ad 72), sh, kp, nu) := by
  intro post h
  subst h0
  have h7 : ¬ nu 0 = 7 := by rw [e0]; exact te_ne (b := 7) (by omega) (by omega) (by omega)
  refine br_t rfl (br_t rfl (br_f h7 (br_t (e0.trans (congrArg nI h49)) (br_f te_10 (br_f te_10 ?_)))))
  refine te_xputAside ?_
  exact And.intro (te_nb te_1) (And.intro (te_fb te_1) h)
theorem te_ym104x {p : Nat} (hp : p ≤ 99) (e0 : nu 0 = nI p) (hin : te_b01 ins) (hwr : te_b01 wr) (h49 : p = 49) (h0 : ot = 0) : te_To (fun t => wpY_last t ((nI R), (nI C), (nI P), (nI T), (nI B), ins, wr, ot, wt, (nI SR), (nI SC), (nI SP), (nI AR), (nI AC), (nI AO), (nI AB), (nI K), 0, bg, 1, mn, ce, sh, aq, kp, nu) 104) (0, 0, (nI P), 0, 5, ins, wr, 1, 0, (nI SR), (nI SC), (nI SP), (nI R), (nI C), (nI T), (nI B), (nI K), 0, bg, 1, mn, (te_cl ce 0 72), sh, (te_cp ce aq 72), kp, nu) := by
  intro post h
  subst h0
  refine nm_r e0 (br_t rfl (br_t rfl (br_f te_10 ?_)))
  refine And.intro (te_nb hin) (And.intro (te_fb hin) (br_f te_10 (br_f (te_ne (b := 7) (by omega) (by omega) (by omega)) (And.intro (te_nb hwr) (And.intro (te_fb hwr) (br_f te_10 (br_t (congrArg nI h49) (br_f te_10 ?_))))))))
  refine te_yexchange1 ?_
  exact h
theorem te_xm108x {p : Nat} (hp : p ≤ 99) (e0 : nu 0 = nI p) (h49 : p = 49) (h0 : ot = 1) : te_To (fun t => wpX_runMarked t ((nI R), (nI C), (nI P), (nI T), (nI B), ins, wr, ot, wt, (nI SR), (nI SC), (nI SP), (nI AR), (nI AC), (nI AO), (nI AB), (nI K), 0, 0, 1, se, ce, ad, sh, kp, nu) 108) ((nI AR), (nI AC), (nI P), (nI AO), (nI AB), ins, wr, 0, 0, (nI SR), (nI SC), (nI SP), (nI AR), (nI AC), (nI AO), (nI AB), (nI K), 0, 0, 1, se, (te_cp ad ce 72), ad, sh, kp, nu) := by
  intro post h
  subst h0
  have h7 : ¬ nu 0 = 7 := by rw [e0]; exact te_ne (b := 7) (by omega) (by omega) (by omega)
  refine br_f (by decide) (br_t rfl (br_f (by decide) (br_f h7 (br_t (e0.trans (congrArg nI h49)) (br_f (by decide) (br_t rfl ?_))))))
  refine te_xbringBack ?_
  exact And.intro (te_nb te_0) (And.intro (te_fb te_0) h)
theorem te_ym108x {p : Nat} (hp : p ≤ 99) (e0 : nu 0 = nI p) (hin : te_b01 ins) (hwr : te_b01 wr) (h49 : p = 49) (h0 : ot = 1) : te_To (fun t => wpY_last t ((nI R), (nI C), (nI P), (nI T), (nI B), ins, wr, ot, wt, (nI SR), (nI SC), (nI SP), (nI AR), (nI AC), (nI AO), (nI AB), (nI K), 0, bg, 1, mn, ce, sh, aq, kp, nu) 108) ((nI AR), (nI AC), (nI P), (nI AO), (nI AB), ins, wr, 0, 0, (nI SR), (nI SC), (nI SP), (nI AR), (nI AC), (nI AO), (nI AB), (nI K), 0, bg, 1, mn, (te_cp aq ce 72), sh, (te_cp ce aq 72), kp, nu) := by
  intro post h
  subst h0
  refine nm_r e0 (br_f (by decide) (br_f (by decide) (br_t rfl (br_f te_10 ?_))))
  refine And.intro (te_nb hin) (And.intro (te_fb hin) (br_f te_10 (br_f (te_ne (b := 7) (by omega) (by omega) (by omega)) (And.intro (te_nb hwr) (And.intro (te_fb hwr) (br_f te_10 (br_t (congrArg nI h49) (br_f (by decide) ?_))))))))
  refine te_yexchange0 ?_
  exact h
theorem te_xmN {x : Int32} (h104 : ¬ x = 104) (h108 : ¬ x = 108) : te_To (fun t => wpX_runMarked t ((nI R), (nI C), (nI P), (nI T), (nI B), ins, wr, ot, wt, (nI SR), (nI SC), (nI SP), (nI AR), (nI AC), (nI AO), (nI AB), (nI K), 0, 0, 1, se, ce, ad, sh, kp, nu) x) ((nI R), (nI C), (nI P), (nI T), (nI B), ins, wr, ot, wt, (nI SR), (nI SC), (nI SP), (nI AR), (nI AC), (nI AO), (nI AB), (nI K), 0, 0, 1, se, ce, ad, sh, kp, nu) := fun post h => br_f h104 (br_f h108 h)
theorem te_ymN {x : Int32} {p : Nat} (hp : p ≤ 99) (e0 : nu 0 = nI p) (h104 : ¬ x = 104) (h108 : ¬ x = 108) : te_To (fun t => wpY_last t ((nI R), (nI C), (nI P), (nI T), (nI B), ins, wr, ot, wt, (nI SR), (nI SC), (nI SP), (nI AR), (nI AC), (nI AO), (nI AB), (nI K), 0, bg, 1, mn, ce, sh, aq, kp, nu) x) ((nI R), (nI C), (nI P), (nI T), (nI B), ins, wr, ot, wt, (nI SR), (nI SC), (nI SP), (nI AR), (nI AC), (nI AO), (nI AB), (nI K), 0, bg, 1, mn, ce, sh, aq, kp, nu) := by
  intro post h
  refine nm_r e0 (br_f h104 (br_f h104 (br_f h108 ?_)))
  by_cases h109 : x = 109
  · exact br_t h109 (br_f te_10 (br_f te_10 h))
  · exact br_f h109 (br_f te_10 h)
theorem te_mrk104 (hA : te_A R C P T B ins wr ot wt SR SC SP AR AC AO AB K) (hF : te_F ot ce ad aq) {p : Nat} (hp : p ≤ 99) (e0 : nu 0 = nI p) : ∃ u' v', te_R0 u' v' ∧ te_To (fun t => wpX_runMarked t ((nI R), (nI C), (nI P), (nI T), (nI B), ins, wr, ot, wt, (nI SR), (nI SC), (nI SP), (nI AR), (nI AC), (nI AO), (nI AB), (nI K), 0, 0, 1, se, ce, ad, sh, kp, nu) 104) u' ∧ te_To (fun t => wpY_last t ((nI R), (nI C), (nI P), (nI T), (nI B), ins, wr, ot, wt, (nI SR), (nI SC), (nI SP), (nI AR), (nI AC), (nI AO), (nI AB), (nI K), 0, bg, 1, mn, ce, sh, aq, kp, nu) 104) v' := by
  obtain ⟨hR, hC, hP, hTB, hB, hin, hwr, hot, hwt, hsr, hsc, hsp, har, hac, hao, hab, hK⟩ := hA
  obtain ⟨hc, had, hjj, hoo⟩ := hF
  by_cases h7 : p = 7
  · refine ⟨_, _, ?_, te_xm104w hp e0 h7, te_ym104w hp e0 hin h7⟩
    exact te_mk0 ⟨hR, hC, hP, hTB, hB, hin, te_1, hot, hwt, hsr, hsc, hsp, har, hac, hao, hab, hK⟩ ⟨hc, had, hjj, hoo⟩ (fun _ _ => rfl)
  by_cases hx : p = 49 ∧ ot = 0
  · refine ⟨_, _, ?_, te_xm104x hp e0 hx.1 hx.2, te_ym104x hp e0 hin hwr hx.1 hx.2⟩
    exact te_mk0 (R := 0) (C := 0) (T := 0) (B := 5) ⟨(by omega), (by omega), hP, (by omega), (by omega), hin, hwr, te_1, te_0, hsr, hsc, hsp, hR, hC, hTB, hB, hK⟩ ⟨te_rgCl hc _ _, te_rgCp hc had _, fun j hj => by rw [te_cpHi ce ad hj, te_cpHi ce aq hj]; exact hjj j hj, Or.inr (te_cpEq ce hjj)⟩ (fun _ _ => rfl)
  · have h49 : p ≠ 49 ∨ ot = 1 := by
      by_cases z : p = 49
      · exact Or.inr (te_b1 hot (fun y => hx ⟨z, y⟩))
      · exact Or.inl z
    refine ⟨_, _, ?_, te_xm104o hp e0 h7 h49, te_ym104o hp e0 hin hwr h7 h49⟩
    exact te_mk0 ⟨hR, hC, hP, hTB, hB, hin, hwr, hot, hwt, hsr, hsc, hsp, har, hac, hao, hab, hK⟩ ⟨hc, had, hjj, hoo⟩ (fun _ _ => rfl)
theorem te_mrk108 (hA : te_A R C P T B ins wr ot wt SR SC SP AR AC AO AB K) (hF : te_F ot ce ad aq) {p : Nat} (hp : p ≤ 99) (e0 : nu 0 = nI p) : ∃ u' v', te_R0 u' v' ∧ te_To (fun t => wpX_runMarked t ((nI R), (nI C), (nI P), (nI T), (nI B), ins, wr, ot, wt, (nI SR), (nI SC), (nI SP), (nI AR), (nI AC), (nI AO), (nI AB), (nI K), 0, 0, 1, se, ce, ad, sh, kp, nu) 108) u' ∧ te_To (fun t => wpY_last t ((nI R), (nI C), (nI P), (nI T), (nI B), ins, wr, ot, wt, (nI SR), (nI SC), (nI SP), (nI AR), (nI AC), (nI AO), (nI AB), (nI K), 0, bg, 1, mn, ce, sh, aq, kp, nu) 108) v' := by
  obtain ⟨hR, hC, hP, hTB, hB, hin, hwr, hot, hwt, hsr, hsc, hsp, har, hac, hao, hab, hK⟩ := hA
  obtain ⟨hc, had, hjj, hoo⟩ := hF
  by_cases h7 : p = 7
  · refine ⟨_, _, ?_, te_xm108w hp e0 h7, te_ym108w hp e0 hin h7⟩
    exact te_mk0 ⟨hR, hC, hP, hTB, hB, hin, te_0, hot, hwt, hsr, hsc, hsp, har, hac, hao, hab, hK⟩ ⟨hc, had, hjj, hoo⟩ (fun _ _ => rfl)
  by_cases hx : p = 49 ∧ ot = 1
  · obtain rfl : aq = ad := hoo.resolve_left (fun z => te_10 (hx.2.symm.trans z))
    refine ⟨_, _, ?_, te_xm108x hp e0 hx.1 hx.2, te_ym108x hp e0 hin hwr hx.1 hx.2⟩
    exact te_mk0 ⟨har, hac, hP, hao, hab, hin, hwr, te_0, te_0, hsr, hsc, hsp, har, hac, hao, hab, hK⟩ ⟨te_rgCp had hc _, had, fun j hj => (te_cpHi ce aq hj).symm, Or.inl rfl⟩ (fun _ _ => rfl)
  · have h49 : p ≠ 49 ∨ ot = 0 := by
      by_cases z : p = 49
      · rcases hot with h | h
        · exact Or.inr h
        · exact absurd ⟨z, h⟩ hx
      · exact Or.inl z
    refine ⟨_, _, ?_, te_xm108o hp e0 h7 h49, te_ym108o hp e0 hin hwr h7 h49⟩
    exact te_mk0 ⟨hR, hC, hP, hTB, hB, hin, hwr, hot, hwt, hsr, hsc, hsp, har, hac, hao, hab, hK⟩ ⟨hc, had, hjj, hoo⟩ (fun _ _ => rfl)
theorem te_mrk (hA : te_A R C P T B ins wr ot wt SR SC SP AR AC AO AB K) (hF : te_F ot ce ad aq) {p : Nat} (hp : p ≤ 99) (e0 : nu 0 = nI p) (b : Nat) (hb : b < 128) : ∃ u' v', te_R0 u' v' ∧ te_To (fun t => wpX_runMarked t ((nI R), (nI C), (nI P), (nI T), (nI B), ins, wr, ot, wt, (nI SR), (nI SC), (nI SP), (nI AR), (nI AC), (nI AO), (nI AB), (nI K), 0, 0, 1, se, ce, ad, sh, kp, nu) (nI b)) u' ∧ te_To (fun t => wpY_last t ((nI R), (nI C), (nI P), (nI T), (nI B), ins, wr, ot, wt, (nI SR), (nI SC), (nI SP), (nI AR), (nI AC), (nI AO), (nI AB), (nI K), 0, bg, 1, mn, ce, sh, aq, kp, nu) (nI b)) v' := by
  by_cases h104 : b = 104
  · subst h104
    exact te_mrk104 hA hF hp e0
  by_cases h108 : b = 108
  · subst h108
    exact te_mrk108 hA hF hp e0
  have g104 : ¬ nI b = 104 := te_ne (b := 104) h104 (by omega) (by omega)
  have g108 : ¬ nI b = 108 := te_ne (b := 108) h108 (by omega) (by omega)
  refine ⟨_, _, ?_, te_xmN g104 g108, te_ymN hp e0 g104 g108⟩
  exact te_mk0 hA hF (fun _ _ => rfl)
end
end
section
/-! a byte inside of a sequence -/
/-- what a byte does: one pair of states, for every post -/
def te_St (u : SX) (v : SY) (b : Int32) : Prop := ∃ u' v', te_R u' v' ∧ te_To (fun t => wpX_take t u b) u' ∧ ∀ post : Int32 → SY → Prop, post 1 v' → wpY_feed post v b
section
variable {R C P T B SR SC SP AR AC AO AB K E : Nat} {ins wr ot wt ma mk se bg mq mn : Int32} {ce ad aq sh kp nu nq : Nat → Int32} {b : Nat}
theorem te_x2in {Z : SX} (h27 : b ≠ 27) (hb : b < 128) (h : te_To (fun t => wpX_takeInside t ((nI R), (nI C), (nI P), (nI T), (nI B), ins, wr, ot, wt, (nI SR), (nI SC), (nI SP), (nI AR), (nI AC), (nI AO), (nI AB), (nI K), (nI 2), ma, mk, se, ce, ad, sh, kp, nu) (nI b)) Z) : te_To (fun t => wpX_take t ((nI R), (nI C), (nI P), (nI T), (nI B), ins, wr, ot, wt, (nI SR), (nI SC), (nI SP), (nI AR), (nI AC), (nI AO), (nI AB), (nI K), (nI 2), ma, mk, se, ce, ad, sh, kp, nu) (nI b)) Z := by
  obtain ⟨z1, z2, z3, z4, z5, z6, z7, z8, z9, z10, z11, z12, z13, z14, z15, z16, z17, z18, z19, z20, z21, z22, z23, z24, z25, z26⟩ := Z
  intro post hz
  refine br_f (te_ne (b := 27) h27 (by omega) (by omega)) (br_f (by decide) (br_t rfl (h _ ?_)))
  exact hz
theorem te_y2in {Z : SY} (hb : b < 128) (h : te_To (fun t => wpY_longSequence t ((nI R), (nI C), (nI P), (nI T), (nI B), ins, wr, ot, wt, (nI SR), (nI SC), (nI SP), (nI AR), (nI AC), (nI AO), (nI AB), (nI K), (nI 2), bg, mq, mn, ce, sh, aq, kp, nq) (nI b)) Z) : ∀ post : Int32 → SY → Prop, post 1 Z → wpY_feed post ((nI R), (nI C), (nI P), (nI T), (nI B), ins, wr, ot, wt, (nI SR), (nI SC), (nI SP), (nI AR), (nI AC), (nI AO), (nI AB), (nI K), (nI 2), bg, mq, mn, ce, sh, aq, kp, nq) (nI b) := by
  obtain ⟨z1, z2, z3, z4, z5, z6, z7, z8, z9, z10, z11, z12, z13, z14, z15, z16, z17, z18, z19, z20, z21, z22, z23, z24, z25, z26⟩ := Z
  intro post hz
  refine br_f (nI_pos (by omega)) (br_t (nI_le (b := 127) (by omega) (by omega)) (br_f (by decide) (br_f (by decide) (h _ ?_))))
  exact hz
/-- neither a digit nor ; nor a first ? -/
theorem te_x2el {Z : SX} (hb : b < 128) (hd : b < 48 ∨ 57 < b) (h59 : b ≠ 59) (h63 : b = 63 → ma = 0) (h : te_To (fun t => wX_takeInside_74 t (nI b) (nI R) (nI C) (nI P) (nI T) (nI B) ins wr ot wt (nI SR) (nI SC) (nI SP) (nI AR) (nI AC) (nI AO) (nI AB) (nI K) (nI 2) 0 mk se ce ad sh kp nu) Z) : te_To (fun t => wpX_takeInside t ((nI R), (nI C), (nI P), (nI T), (nI B), ins, wr, ot, wt, (nI SR), (nI SC), (nI SP), (nI AR), (nI AC), (nI AO), (nI AB), (nI K), (nI 2), ma, mk, se, ce, ad, sh, kp, nu) (nI b)) Z := by
  intro post hz
  have G : wX_takeInside_33 post (nI b) ma (nI R) (nI C) (nI P) (nI T) (nI B) ins wr ot wt (nI SR) (nI SC) (nI SP) (nI AR) (nI AC) (nI AO) (nI AB) (nI K) (nI 2) 0 mk se ce ad sh kp nu := by
    refine br_f (te_ne (b := 59) h59 (by omega) (by omega)) ?_
    by_cases z : b = 63
    · exact br_t (congrArg nI z) (br_t (h63 z) (h _ hz))
    · exact br_f (te_ne (b := 63) z (by omega) (by omega)) (h _ hz)
  by_cases h48 : b < 48
  · exact br_t (nI_lt (b := 48) h48 (by omega)) G
  · exact br_f (nI_nlt (b := 48) (by omega) (by omega)) (br_t (nI_lt (a := 57) (by omega) (by omega)) G)
theorem te_y2el {Z : SY} (hb : b < 128) (hd : b < 48 ∨ 57 < b) (h59 : b ≠ 59) (h63 : b = 63 → ¬ bg = 0) (h : te_To (fun t => wY_longSequence_128 t (nI b) (nI R) (nI C) (nI P) (nI T) (nI B) ins wr ot wt (nI SR) (nI SC) (nI SP) (nI AR) (nI AC) (nI AO) (nI AB) (nI K) (nI 2) bg mq mn ce sh aq kp nq) Z) : te_To (fun t => wpY_longSequence t ((nI R), (nI C), (nI P), (nI T), (nI B), ins, wr, ot, wt, (nI SR), (nI SC), (nI SP), (nI AR), (nI AC), (nI AO), (nI AB), (nI K), (nI 2), bg, mq, mn, ce, sh, aq, kp, nq) (nI b)) Z := by
  intro post hz
  have G : wY_longSequence_16 post (nI b) (nI R) (nI C) (nI P) (nI T) (nI B) ins wr ot wt (nI SR) (nI SC) (nI SP) (nI AR) (nI AC) (nI AO) (nI AB) (nI K) (nI 2) bg mq mn ce sh aq kp nq := by
    refine br_t rfl (br_f (te_ne (b := 59) h59 (by omega) (by omega)) ?_)
    by_cases z : b = 63
    · exact br_t (congrArg nI z) (br_f (h63 z) (h _ hz))
    · exact br_f (te_ne (b := 63) z (by omega) (by omega)) (h _ hz)
  by_cases h48 : b < 48
  · exact br_t (nI_lt (b := 48) h48 (by omega)) G
  · exact br_f (nI_nlt (b := 48) (by omega) (by omega)) (br_t (nI_lt (a := 57) (by omega) (by omega)) G)
/-- a byte that does not fit -/
theorem te_x2o (hb : b < 128) (hl : b < 64 ∨ 126 < b) : te_To (fun t => wX_takeInside_74 t (nI b) (nI R) (nI C) (nI P) (nI T) (nI B) ins wr ot wt (nI SR) (nI SC) (nI SP) (nI AR) (nI AC) (nI AO) (nI AB) (nI K) (nI 2) 0 mk se ce ad sh kp nu) ((nI R), (nI C), (nI P), (nI T), (nI B), ins, wr, ot, wt, (nI SR), (nI SC), (nI SP), (nI AR), (nI AC), (nI AO), (nI AB), (nI K), 0, 0, mk, se, ce, ad, sh, kp, nu) := by
  intro post h
  by_cases h64 : b < 64
  · exact br_t (nI_lt (b := 64) h64 (by omega)) h
  · exact br_f (nI_nlt (b := 64) (by omega) (by omega)) (br_t (nI_lt (a := 126) (by omega) (by omega)) h)
theorem te_y2o (hb : b < 128) (h27 : b ≠ 27) (hl : b < 64 ∨ 126 < b) : te_To (fun t => wY_longSequence_128 t (nI b) (nI R) (nI C) (nI P) (nI T) (nI B) ins wr ot wt (nI SR) (nI SC) (nI SP) (nI AR) (nI AC) (nI AO) (nI AB) (nI K) (nI 2) bg mq mn ce sh aq kp nq) ((nI R), (nI C), (nI P), (nI T), (nI B), ins, wr, ot, wt, (nI SR), (nI SC), (nI SP), (nI AR), (nI AC), (nI AO), (nI AB), (nI K), 0, 1, mq, mn, ce, sh, aq, kp, nq) := by
  intro post h
  refine br_f (te_ne (b := 27) h27 (by omega) (by omega)) ?_
  by_cases h64 : b < 64
  · exact br_t (nI_lt (b := 64) h64 (by omega)) h
  · exact br_f (nI_nlt (b := 64) (by omega) (by omega)) (br_t (nI_lt (a := 126) (by omega) (by omega)) h)
/-- a last byte -/
theorem te_x2p {Z : SX} (h1 : 64 ≤ b) (h2 : b ≤ 126) (h : te_To (fun t => wpX_runPlain t ((nI R), (nI C), (nI P), (nI T), (nI B), ins, wr, ot, wt, (nI SR), (nI SC), (nI SP), (nI AR), (nI AC), (nI AO), (nI AB), (nI K), 0, 0, 0, se, ce, ad, sh, kp, nu) (nI b)) Z) : te_To (fun t => wX_takeInside_74 t (nI b) (nI R) (nI C) (nI P) (nI T) (nI B) ins wr ot wt (nI SR) (nI SC) (nI SP) (nI AR) (nI AC) (nI AO) (nI AB) (nI K) (nI 2) 0 0 se ce ad sh kp nu) Z := by
  obtain ⟨z1, z2, z3, z4, z5, z6, z7, z8, z9, z10, z11, z12, z13, z14, z15, z16, z17, z18, z19, z20, z21, z22, z23, z24, z25, z26⟩ := Z
  intro post hz
  refine br_f (nI_nlt (b := 64) h1 (by omega)) (br_f (nI_nlt (a := 126) h2 (by omega)) (br_t rfl (h _ ?_)))
  exact hz
theorem te_x2m {Z : SX} (h1 : 64 ≤ b) (h2 : b ≤ 126) (h : te_To (fun t => wpX_runMarked t ((nI R), (nI C), (nI P), (nI T), (nI B), ins, wr, ot, wt, (nI SR), (nI SC), (nI SP), (nI AR), (nI AC), (nI AO), (nI AB), (nI K), 0, 0, 1, se, ce, ad, sh, kp, nu) (nI b)) Z) : te_To (fun t => wX_takeInside_74 t (nI b) (nI R) (nI C) (nI P) (nI T) (nI B) ins wr ot wt (nI SR) (nI SC) (nI SP) (nI AR) (nI AC) (nI AO) (nI AB) (nI K) (nI 2) 0 1 se ce ad sh kp nu) Z := by
  obtain ⟨z1, z2, z3, z4, z5, z6, z7, z8, z9, z10, z11, z12, z13, z14, z15, z16, z17, z18, z19, z20, z21, z22, z23, z24, z25, z26⟩ := Z
  intro post hz
  refine br_f (nI_nlt (b := 64) h1 (by omega)) (br_f (nI_nlt (a := 126) h2 (by omega)) (br_f te_10 (h _ ?_)))
  exact hz
theorem te_y2l {w1 w2 w3 w4 w5 w6 w7 w8 w9 w10 w11 w12 w13 w14 w15 w16 w17 w18 w19 w20 w21 : Int32} {w22 w23 w24 w25 w26 : Nat → Int32} (h1 : 64 ≤ b) (h2 : b ≤ 126) (h : te_To (fun t => wpY_last t ((nI R), (nI C), (nI P), (nI T), (nI B), ins, wr, ot, wt, (nI SR), (nI SC), (nI SP), (nI AR), (nI AC), (nI AO), (nI AB), (nI K), 0, bg, mq, mn, ce, sh, aq, kp, nq) (nI b)) (w1, w2, w3, w4, w5, w6, w7, w8, w9, w10, w11, w12, w13, w14, w15, w16, w17, w18, w19, w20, w21, w22, w23, w24, w25, w26)) : te_To (fun t => wY_longSequence_128 t (nI b) (nI R) (nI C) (nI P) (nI T) (nI B) ins wr ot wt (nI SR) (nI SC) (nI SP) (nI AR) (nI AC) (nI AO) (nI AB) (nI K) (nI 2) bg mq mn ce sh aq kp nq) (w1, w2, w3, w4, w5, w6, w7, w8, w9, w10, w11, w12, w13, w14, w15, w16, w17, w18, 1, w20, w21, w22, w23, w24, w25, w26) := by
  intro post hz
  refine br_f (te_ne (b := 27) (by omega) (by omega) (by omega)) ?_
  refine br_f (nI_nlt (b := 64) h1 (by omega)) (br_f (nI_nlt (a := 126) h2 (by omega)) (h _ ?_))
  exact hz
end
section
variable {R C P T B SR SC SP AR AC AO AB K : Nat} {ins wr ot wt ma mk se bg mq mn : Int32} {ce ad aq sh kp nu nq : Nat → Int32} {b : Nat}
/-- a last byte, both sides -/
theorem te_s2l (hA : te_A R C P T B ins wr ot wt SR SC SP AR AC AO AB K) (hF : te_F ot ce ad aq) (hH : te_H2 ma mk se bg mq mn nu nq) (h1 : 64 ≤ b) (h2 : b ≤ 126) : te_St ((nI R), (nI C), (nI P), (nI T), (nI B), ins, wr, ot, wt, (nI SR), (nI SC), (nI SP), (nI AR), (nI AC), (nI AO), (nI AB), (nI K), (nI 2), ma, mk, se, ce, ad, sh, kp, nu) ((nI R), (nI C), (nI P), (nI T), (nI B), ins, wr, ot, wt, (nI SR), (nI SC), (nI SP), (nI AR), (nI AC), (nI AO), (nI AB), (nI K), (nI 2), bg, mq, mn, ce, sh, aq, kp, nq) (nI b) := by
  obtain ⟨hmb, hmk, rfl, rfl, ⟨E, hE, rfl, rfl⟩, hn⟩ := hH
  have hv : ∀ j, j < 4 → (fun j => (nq j).toNatClampNeg) j ≤ 99 ∧ nq j = nI ((fun j => (nq j).toNatClampNeg) j) := by
    intro j hj
    obtain ⟨m, hm, em⟩ := hn j hj
    dsimp only
    rw [em, nI_clamp (by omega)]
    exact ⟨hm, rfl⟩
  have v0 := hv 0 (by omega)
  have v1 := hv 1 (by omega)
  have D : ∃ u' v', te_R0 u' v' ∧ te_To (fun t => wX_takeInside_74 t (nI b) (nI R) (nI C) (nI P) (nI T) (nI B) ins wr ot wt (nI SR) (nI SC) (nI SP) (nI AR) (nI AC) (nI AO) (nI AB) (nI K) (nI 2) 0 mq (nI E) ce ad sh kp nq) u' ∧ te_To (fun t => wpY_last t ((nI R), (nI C), (nI P), (nI T), (nI B), ins, wr, ot, wt, (nI SR), (nI SC), (nI SP), (nI AR), (nI AC), (nI AO), (nI AB), (nI K), 0, bg, mq, (nI (E + 1)), ce, sh, aq, kp, nq) (nI b)) v' := by
    rcases hmk with rfl | rfl
    · obtain ⟨u', v', hR0, hX, hY⟩ := te_run (bg := bg) (sh := sh) (kp := kp) hA hF v0.1 v1.1 v0.2 v1.2 hE hv b (by omega)
      exact ⟨u', v', hR0, te_x2p h1 h2 hX, hY⟩
    · obtain ⟨u', v', hR0, hX, hY⟩ := te_mrk (se := nI E) (bg := bg) (mn := nI (E + 1)) (sh := sh) (kp := kp) hA hF v0.1 v0.2 b (by omega)
      exact ⟨u', v', hR0, te_x2m h1 h2 hX, hY⟩
  obtain ⟨u', v', hR0, hX, hY⟩ := D
  obtain ⟨R', C', P', T', B', ins', wr', ot', wt', SR', SC', SP', AR', AC', AO', AB', K', ma', mk', se', bg', mq', mn', ce', ad', aq', sh', kp', nu', nq', rfl, rfl, hA', hF', hj'⟩ := hR0
  refine ⟨_, _, ?_, te_x2in (by omega) (by omega) (te_x2el (by omega) (by omega) (by omega) (fun z => absurd z (by omega)) hX), te_y2in (by omega) (te_y2el (by omega) (by omega) (by omega) (fun z => absurd z (by omega)) (te_y2l h1 h2 hY))⟩
  exact te_mk (S := 0) hA' hF' ⟨hj', Or.inl rfl⟩
theorem te_st2 (hA : te_A R C P T B ins wr ot wt SR SC SP AR AC AO AB K) (hF : te_F ot ce ad aq) (hH : te_H2 ma mk se bg mq mn nu nq) (hb : b < 128) : te_St ((nI R), (nI C), (nI P), (nI T), (nI B), ins, wr, ot, wt, (nI SR), (nI SC), (nI SP), (nI AR), (nI AC), (nI AO), (nI AB), (nI K), (nI 2), ma, mk, se, ce, ad, sh, kp, nu) ((nI R), (nI C), (nI P), (nI T), (nI B), ins, wr, ot, wt, (nI SR), (nI SC), (nI SP), (nI AR), (nI AC), (nI AO), (nI AB), (nI K), (nI 2), bg, mq, mn, ce, sh, aq, kp, nq) (nI b) := by
  by_cases h27 : b = 27
  · subst h27
    refine ⟨((nI R), (nI C), (nI P), (nI T), (nI B), ins, wr, ot, wt, (nI SR), (nI SC), (nI SP), (nI AR), (nI AC), (nI AO), (nI AB), (nI K), 1, ma, mk, se, ce, ad, sh, kp, nu), ((nI R), (nI C), (nI P), (nI T), (nI B), ins, wr, ot, wt, (nI SR), (nI SC), (nI SP), (nI AR), (nI AC), (nI AO), (nI AB), (nI K), 1, 1, mq, mn, ce, sh, aq, kp, nq), ?_, ?_, ?_⟩
    · exact te_mk (S := 1) hA hF ⟨fun j _ => by rw [hH.2.2.2.1], Or.inr (Or.inl rfl)⟩
    · exact fun post h => br_t rfl h
    · refine te_y2in (by omega) (te_y2el (by omega) (by omega) (by omega) (fun z => absurd z (by omega)) ?_)
      exact fun post h => br_t rfl (br_t (by decide) h)
  by_cases hl : 64 ≤ b ∧ b ≤ 126
  · exact te_s2l hA hF hH hl.1 hl.2
  obtain ⟨hmb, hmk, rfl, rfl, ⟨E, hE, rfl, rfl⟩, hn⟩ := hH
  by_cases hd : 48 ≤ b ∧ b ≤ 57
  · -- a digit
    by_cases h4 : E = 4
    · subst h4
      refine ⟨((nI R), (nI C), (nI P), (nI T), (nI B), ins, wr, ot, wt, (nI SR), (nI SC), (nI SP), (nI AR), (nI AC), (nI AO), (nI AB), (nI K), (nI 2), 0, mq, (nI 4), ce, ad, sh, kp, nq), ((nI R), (nI C), (nI P), (nI T), (nI B), ins, wr, ot, wt, (nI SR), (nI SC), (nI SP), (nI AR), (nI AC), (nI AO), (nI AB), (nI K), (nI 2), 1, mq, (nI 5), ce, sh, aq, kp, nq), ?_, te_x2in h27 hb ?_, te_y2in hb ?_⟩
      · exact te_mk (S := 2) hA hF ⟨fun _ _ => rfl, Or.inr (Or.inr ⟨rfl, Or.inl ⟨rfl, rfl⟩, hmk, rfl, rfl, ⟨4, by omega, rfl, rfl⟩, hn⟩)⟩
      · exact fun post h => br_f (nI_nlt (b := 48) hd.1 (by omega)) (br_f (nI_nlt (a := 57) hd.2 (by omega)) (br_t (by decide) h))
      · exact fun post h => br_f (nI_nlt (b := 48) hd.1 (by omega)) (br_f (nI_nlt (a := 57) hd.2 (by omega)) (br_f te_10 (br_t (by decide) h)))
    · obtain ⟨m, hm, em⟩ := hn E (by omega)
      refine ⟨((nI R), (nI C), (nI P), (nI T), (nI B), ins, wr, ot, wt, (nI SR), (nI SC), (nI SP), (nI AR), (nI AC), (nI AO), (nI AB), (nI K), (nI 2), 0, mq, (nI E), ce, ad, sh, kp, (upd nq E (nI (te_min (m * 10 + (b - 48)) 99)))), ((nI R), (nI C), (nI P), (nI T), (nI B), ins, wr, ot, wt, (nI SR), (nI SC), (nI SP), (nI AR), (nI AC), (nI AO), (nI AB), (nI K), (nI 2), 1, mq, (nI (E + 1)), ce, sh, aq, kp, (upd nq E (nI (te_min (m * 10 + (b - 48)) 99)))), ?_, te_x2in h27 hb ?_, te_y2in hb ?_⟩
      · refine te_mk (S := 2) hA hF ⟨fun _ _ => rfl, Or.inr (Or.inr ⟨rfl, Or.inl ⟨rfl, rfl⟩, hmk, rfl, rfl, ⟨E, hE, rfl, rfl⟩, ?_⟩)⟩
        intro j hj
        by_cases hje : j = E
        · subst hje
          exact ⟨_, te_minLe _ _, pk_us⟩
        · rw [pk_un hje]
          exact hn j hj
      · intro post h
        refine br_f (nI_nlt (b := 48) hd.1 (by omega)) (br_f (nI_nlt (a := 57) hd.2 (by omega)) ?_)
        refine br_f (nI_ge (b := 4) (by omega) (by omega)) ⟨vp_in_nI (by omega) (by omega), ?_⟩
        have e48 : nI b - 48 = nI (b - 48) := pk_sub (b := 48) hd.1
        have e10 : nI m * 10 = nI (m * 10) := pk_mul m 10
        rw [nI_clamp (by omega), em, e48, e10, nI_add]
        refine te_xless (m * 10 + (b - 48)) 99 rfl rfl (by omega) (by omega) ?_
        refine ⟨vp_in_nI (by omega) (by omega), nm_e ?_⟩
        exact h
      · intro post h
        refine br_f (nI_nlt (b := 48) hd.1 (by omega)) (br_f (nI_nlt (a := 57) hd.2 (by omega)) (br_f te_10 (br_f (nI_nlt (a := 4) (by omega) (by omega)) ?_)))
        have e1 : nI (E + 1) - 1 = nI E := nI_pred E
        have e48 : nI (10 * m + b) - 48 = nI (m * 10 + (b - 48)) := (pk_sub (b := 48) (by omega)).trans (congrArg nI (by omega))
        have e10 : 10 * nI m = nI (10 * m) := pk_mul 10 m
        rw [e1, nI_clamp (by omega), em, e10, nI_add, e48]
        refine ⟨vp_in_nI (by omega) (by omega), nm_e ?_⟩
        by_cases h99 : m * 10 + (b - 48) ≤ 99
        · refine br_t (nI_le (b := 99) h99 (by omega)) ⟨vp_in_nI (by omega) (by omega), nm_e ?_⟩
          have e : te_min (m * 10 + (b - 48)) 99 = m * 10 + (b - 48) := by unfold te_min; split <;> omega
          rw [e] at h
          exact h
        · refine br_f (nI_ge (a := 99) (by omega) (by omega)) ⟨vp_in_nI (by omega) (by omega), nm_e ?_⟩
          rw [te_minA (by omega)] at h
          exact h
  by_cases h59 : b = 59
  · subst h59
    refine ⟨((nI R), (nI C), (nI P), (nI T), (nI B), ins, wr, ot, wt, (nI SR), (nI SC), (nI SP), (nI AR), (nI AC), (nI AO), (nI AB), (nI K), (nI 2), 0, mq, (nI (te_min (E + 1) 4)), ce, ad, sh, kp, nq), ((nI R), (nI C), (nI P), (nI T), (nI B), ins, wr, ot, wt, (nI SR), (nI SC), (nI SP), (nI AR), (nI AC), (nI AO), (nI AB), (nI K), (nI 2), 1, mq, (nI (te_min (E + 1) 4 + 1)), ce, sh, aq, kp, nq), ?_, te_x2in h27 hb ?_, te_y2in hb ?_⟩
    · exact te_mk (S := 2) hA hF ⟨fun _ _ => rfl, Or.inr (Or.inr ⟨rfl, Or.inl ⟨rfl, rfl⟩, hmk, rfl, rfl, ⟨_, te_minLe _ _, rfl, rfl⟩, hn⟩)⟩
    · intro post h
      refine br_f (by decide) (br_t (by decide) (br_t rfl ?_))
      refine te_xless (E + 1) 4 (nI_1 E) rfl (by omega) (by omega) ?_
      exact h
    · intro post h
      refine br_f (by decide) (br_t (by decide) (br_t rfl (br_t rfl ?_)))
      by_cases h4 : E = 4
      · subst h4
        rw [te_minA (by omega)] at h
        exact br_t (by decide) h
      · rw [te_minC (by omega)] at h
        exact br_f (nI_ge (b := 5) (by omega) (by omega)) (nm_r (nI_1 (E + 1)) h)
  by_cases h63 : b = 63 ∧ ma = 1
  · obtain ⟨rfl, hm1⟩ := h63
    have hbg : bg = 0 := by
      rcases hmb with z | z
      · exact absurd (z.1.symm.trans hm1) (by decide)
      · exact z.2
    refine ⟨((nI R), (nI C), (nI P), (nI T), (nI B), ins, wr, ot, wt, (nI SR), (nI SC), (nI SP), (nI AR), (nI AC), (nI AO), (nI AB), (nI K), (nI 2), 0, 1, (nI E), ce, ad, sh, kp, nq), ((nI R), (nI C), (nI P), (nI T), (nI B), ins, wr, ot, wt, (nI SR), (nI SC), (nI SP), (nI AR), (nI AC), (nI AO), (nI AB), (nI K), (nI 2), 1, 1, (nI (E + 1)), ce, sh, aq, kp, nq), ?_, te_x2in h27 hb ?_, te_y2in hb ?_⟩
    · exact te_mk (S := 2) hA hF ⟨fun _ _ => rfl, Or.inr (Or.inr ⟨rfl, Or.inl ⟨rfl, rfl⟩, te_1, rfl, rfl, ⟨E, hE, rfl, rfl⟩, hn⟩)⟩
    · intro post h
      subst hm1
      exact br_f (by decide) (br_t (by decide) (br_f (by decide) (br_t rfl (br_f te_10 h))))
    · intro post h
      subst hbg
      exact br_f (by decide) (br_t (by decide) (br_t rfl (br_f (by decide) (br_t rfl (br_t rfl h)))))
  -- a byte that does not fit
  have hm0 : b = 63 → ma = 0 := by
    intro z
    rcases hmb with y | y
    · exact y.1
    · exact absurd ⟨z, y.1⟩ h63
  have hb0 : b = 63 → ¬ bg = 0 := by
    intro z
    rcases hmb with y | y
    · rw [y.2]; exact te_10
    · exact absurd ⟨z, y.1⟩ h63
  refine ⟨_, _, ?_, te_x2in h27 hb (te_x2el hb (by omega) h59 hm0 (te_x2o hb (by omega))), te_y2in hb (te_y2el hb (by omega) h59 hb0 (te_y2o hb h27 (by omega)))⟩
  exact te_mk (S := 0) hA hF ⟨fun _ _ => rfl, Or.inl rfl⟩
end
end
section
/-! the byte right after 27 -/
theorem te_zrEq {s t : Nat → Int32} (h : ∀ j, 4 ≤ j → s j = t j) : te_zr t 4 = te_zr s 4 := by
  funext k
  simp only [te_zr]
  by_cases hk : k < 4
  · rw [if_pos hk, if_pos hk]
  · rw [if_neg hk, if_neg hk]
    exact (h k (by omega)).symm
theorem te_zrHi {s t : Nat → Int32} (h : ∀ j, 4 ≤ j → s j = t j) : ∀ j, 4 ≤ j → s j = te_zr t 4 j := by
  intro j hj
  simp only [te_zr]
  rw [if_neg (by omega)]
  exact h j hj
section
variable {R C P T B SR SC SP AR AC AO AB K : Nat} {ins wr ot wt ma mk se bg mq mn : Int32} {ce ad aq sh kp nu nq : Nat → Int32} {b : Nat}
theorem te_x1in {Z : SX} (h27 : b ≠ 27) (hb : b < 128) (h : te_To (fun t => wpX_takeSecond t ((nI R), (nI C), (nI P), (nI T), (nI B), ins, wr, ot, wt, (nI SR), (nI SC), (nI SP), (nI AR), (nI AC), (nI AO), (nI AB), (nI K), (nI 1), ma, mk, se, ce, ad, sh, kp, nu) (nI b)) Z) : te_To (fun t => wpX_take t ((nI R), (nI C), (nI P), (nI T), (nI B), ins, wr, ot, wt, (nI SR), (nI SC), (nI SP), (nI AR), (nI AC), (nI AO), (nI AB), (nI K), (nI 1), ma, mk, se, ce, ad, sh, kp, nu) (nI b)) Z := by
  obtain ⟨z1, z2, z3, z4, z5, z6, z7, z8, z9, z10, z11, z12, z13, z14, z15, z16, z17, z18, z19, z20, z21, z22, z23, z24, z25, z26⟩ := Z
  intro post hz
  refine br_f (te_ne (b := 27) h27 (by omega) (by omega)) (br_t rfl (h _ ?_))
  exact hz
theorem te_ysh_L {post : SY → Prop} {x1 st : Int32} (h : wY_shortSequence_42 post x1 (nI R) (nI C) (nI P) (nI T) (nI B) ins wr ot wt (nI SR) (nI SC) (nI SP) (nI AR) (nI AC) (nI AO) (nI AB) (nI K) st bg mq mn 1 (nI 4) ce sh aq kp (te_zr nq 4)) : ∀ g p : Nat, p + g = 4 → wY_shortSequence_42 post x1 (nI R) (nI C) (nI P) (nI T) (nI B) ins wr ot wt (nI SR) (nI SC) (nI SP) (nI AR) (nI AC) (nI AO) (nI AB) (nI K) st bg mq mn (g + 1) (nI p) ce sh aq kp (te_zr nq p) := by
  intro g
  induction g with
  | zero =>
    intro p hp
    obtain rfl : p = 4 := by omega
    exact h
  | succ g ih =>
    intro p hp
    refine br_f (nI_ge (b := 4) (by omega) (by omega)) ⟨vp_in_nI (by omega) (by omega), nm_r ?_ (nm_r (nI_1 p) (ih (p + 1) (by omega)))⟩
    rw [nI_clamp (by omega)]
    exact te_zrS nq p
/-- z is the next stage -/
theorem te_y1in {z : Int32} {Z : SY} (hb : b < 128) (hz : (b = 91 ∧ z = 2) ∨ (b = 27 ∧ z = 1) ∨ (b ≠ 91 ∧ b ≠ 27 ∧ z = 0)) (h : te_To (fun t => wY_shortSequence_42 t (nI b) (nI R) (nI C) (nI P) (nI T) (nI B) ins wr ot wt (nI SR) (nI SC) (nI SP) (nI AR) (nI AC) (nI AO) (nI AB) (nI K) z 0 0 1 1 (nI 4) ce sh aq kp (te_zr nq 4)) Z) : ∀ post : Int32 → SY → Prop, post 1 Z → wpY_feed post ((nI R), (nI C), (nI P), (nI T), (nI B), ins, wr, ot, wt, (nI SR), (nI SC), (nI SP), (nI AR), (nI AC), (nI AO), (nI AB), (nI K), (nI 1), bg, mq, mn, ce, sh, aq, kp, nq) (nI b) := by
  obtain ⟨z1, z2, z3, z4, z5, z6, z7, z8, z9, z10, z11, z12, z13, z14, z15, z16, z17, z18, z19, z20, z21, z22, z23, z24, z25, z26⟩ := Z
  intro post hp
  refine br_f (nI_pos (by omega)) (br_t (nI_le (b := 127) (by omega) (by omega)) (br_f (by decide) (br_t rfl ?_)))
  have G : wY_shortSequence_22 (fun u => match u with | (a1, a2, a3, a4, a5, a6, a7, a8, a9, a10, a11, a12, a13, a14, a15, a16, a17, a18, a19, a20, a21, a22, a23, a24, a25, a26) => post 1 (a1, a2, a3, a4, a5, a6, a7, a8, a9, a10, a11, a12, a13, a14, a15, a16, a17, a18, a19, a20, a21, a22, a23, a24, a25, a26)) (nI b) z (nI R) (nI C) (nI P) (nI T) (nI B) ins wr ot wt (nI SR) (nI SC) (nI SP) (nI AR) (nI AC) (nI AO) (nI AB) (nI K) (nI 1) bg mq mn ce sh aq kp nq := by
    have H := te_ysh_L (post := fun u : SY => match u with | (a1, a2, a3, a4, a5, a6, a7, a8, a9, a10, a11, a12, a13, a14, a15, a16, a17, a18, a19, a20, a21, a22, a23, a24, a25, a26) => post 1 (a1, a2, a3, a4, a5, a6, a7, a8, a9, a10, a11, a12, a13, a14, a15, a16, a17, a18, a19, a20, a21, a22, a23, a24, a25, a26)) (h _ hp) 4 0 rfl
    rw [te_zr0] at H
    exact Exists.intro _ H
  rcases hz with ⟨h1, rfl⟩ | ⟨h1, rfl⟩ | ⟨h1, h2, rfl⟩
  · exact br_t (congrArg nI h1) G
  · exact br_f (te_ne (b := 91) (by omega) (by omega) (by omega)) (br_t (congrArg nI h1) G)
  · exact br_f (te_ne (b := 91) h1 (by omega) (by omega)) (br_f (te_ne (b := 27) h2 (by omega) (by omega)) G)
theorem te_s1_91 (hA : te_A R C P T B ins wr ot wt SR SC SP AR AC AO AB K) (hF : te_F ot ce ad aq) (hj : ∀ j, 4 ≤ j → nu j = nq j) : te_St ((nI R), (nI C), (nI P), (nI T), (nI B), ins, wr, ot, wt, (nI SR), (nI SC), (nI SP), (nI AR), (nI AC), (nI AO), (nI AB), (nI K), (nI 1), ma, mk, se, ce, ad, sh, kp, nu) ((nI R), (nI C), (nI P), (nI T), (nI B), ins, wr, ot, wt, (nI SR), (nI SC), (nI SP), (nI AR), (nI AC), (nI AO), (nI AB), (nI K), (nI 1), bg, mq, mn, ce, sh, aq, kp, nq) 91 := by
  refine ⟨((nI R), (nI C), (nI P), (nI T), (nI B), ins, wr, ot, wt, (nI SR), (nI SC), (nI SP), (nI AR), (nI AC), (nI AO), (nI AB), (nI K), (nI 2), 1, 0, 0, ce, ad, sh, kp, (te_zr nu 4)), ((nI R), (nI C), (nI P), (nI T), (nI B), ins, wr, ot, wt, (nI SR), (nI SC), (nI SP), (nI AR), (nI AC), (nI AO), (nI AB), (nI K), (nI 2), 0, 0, 1, ce, sh, aq, kp, (te_zr nq 4)), ?_, te_x1in (b := 91) (by omega) (by omega) ?_, te_y1in (b := 91) (by omega) (Or.inl ⟨rfl, rfl⟩) ?_⟩
  · refine te_mk (S := 2) hA hF ⟨?_, Or.inr (Or.inr ⟨rfl, Or.inr ⟨rfl, rfl⟩, te_0, rfl, te_zrEq hj, ⟨0, by omega, rfl, rfl⟩, ?_⟩)⟩
    · intro j _
      rw [te_zrEq hj]
    · intro j hj4
      exact ⟨0, by omega, if_pos hj4⟩
  · intro post h
    unfold wpX_takeSecond
    refine br_f (by decide) (br_f (by decide) (br_f (by decide) (br_f (by decide) (br_f (by decide) (br_t rfl ?_)))))
    refine te_xopen ?_
    exact h
  · intro post h
    exact br_t (nI_le (a := 4) (b := 4) (by omega) (by omega)) (br_f (by decide) (br_f (by decide) (br_f (by decide) (br_f (by decide) (br_f (by decide) (br_f (by decide) h))))))
theorem te_s1_55 (hA : te_A R C P T B ins wr ot wt SR SC SP AR AC AO AB K) (hF : te_F ot ce ad aq) (hj : ∀ j, 4 ≤ j → nu j = nq j) : te_St ((nI R), (nI C), (nI P), (nI T), (nI B), ins, wr, ot, wt, (nI SR), (nI SC), (nI SP), (nI AR), (nI AC), (nI AO), (nI AB), (nI K), (nI 1), ma, mk, se, ce, ad, sh, kp, nu) ((nI R), (nI C), (nI P), (nI T), (nI B), ins, wr, ot, wt, (nI SR), (nI SC), (nI SP), (nI AR), (nI AC), (nI AO), (nI AB), (nI K), (nI 1), bg, mq, mn, ce, sh, aq, kp, nq) 55 := by
  obtain ⟨hR, hC, hP, hTB, hB, hin, hwr, hot, hwt, hsr, hsc, hsp, har, hac, hao, hab, hK⟩ := hA
  obtain ⟨hc, had, hjj, hoo⟩ := hF
  refine ⟨((nI R), (nI C), (nI P), (nI T), (nI B), ins, wr, ot, wt, (nI R), (nI C), (nI P), (nI AR), (nI AC), (nI AO), (nI AB), (nI K), 0, ma, mk, se, ce, ad, sh, kp, nu), ((nI R), (nI C), (nI P), (nI T), (nI B), ins, wr, ot, wt, (nI R), (nI C), (nI P), (nI AR), (nI AC), (nI AO), (nI AB), (nI K), 0, 0, 0, 1, ce, sh, aq, kp, (te_zr nq 4)), ?_, te_x1in (b := 55) (by omega) (by omega) ?_, te_y1in (b := 55) (by omega) (Or.inr (Or.inr ⟨by omega, by omega, rfl⟩)) ?_⟩
  · exact te_mk (S := 0) ⟨hR, hC, hP, hTB, hB, hin, hwr, hot, hwt, hR, hC, hP, har, hac, hao, hab, hK⟩ ⟨hc, had, hjj, hoo⟩ ⟨te_zrHi hj, Or.inl rfl⟩
  · intro post h
    unfold wpX_takeSecond
    refine br_t rfl ?_
    exact h
  · intro post h
    refine br_t (nI_le (a := 4) (b := 4) (by omega) (by omega)) (br_t rfl ?_)
    exact h
theorem te_s1_56 (hA : te_A R C P T B ins wr ot wt SR SC SP AR AC AO AB K) (hF : te_F ot ce ad aq) (hj : ∀ j, 4 ≤ j → nu j = nq j) : te_St ((nI R), (nI C), (nI P), (nI T), (nI B), ins, wr, ot, wt, (nI SR), (nI SC), (nI SP), (nI AR), (nI AC), (nI AO), (nI AB), (nI K), (nI 1), ma, mk, se, ce, ad, sh, kp, nu) ((nI R), (nI C), (nI P), (nI T), (nI B), ins, wr, ot, wt, (nI SR), (nI SC), (nI SP), (nI AR), (nI AC), (nI AO), (nI AB), (nI K), (nI 1), bg, mq, mn, ce, sh, aq, kp, nq) 56 := by
  obtain ⟨hR, hC, hP, hTB, hB, hin, hwr, hot, hwt, hsr, hsc, hsp, har, hac, hao, hab, hK⟩ := hA
  obtain ⟨hc, had, hjj, hoo⟩ := hF
  refine ⟨((nI SR), (nI SC), (nI SP), (nI T), (nI B), ins, wr, ot, 0, (nI SR), (nI SC), (nI SP), (nI AR), (nI AC), (nI AO), (nI AB), (nI K), 0, ma, mk, se, ce, ad, sh, kp, nu), ((nI SR), (nI SC), (nI SP), (nI T), (nI B), ins, wr, ot, 0, (nI SR), (nI SC), (nI SP), (nI AR), (nI AC), (nI AO), (nI AB), (nI K), 0, 0, 0, 1, ce, sh, aq, kp, (te_zr nq 4)), ?_, te_x1in (b := 56) (by omega) (by omega) ?_, te_y1in (b := 56) (by omega) (Or.inr (Or.inr ⟨by omega, by omega, rfl⟩)) ?_⟩
  · exact te_mk (S := 0) ⟨hsr, hsc, hsp, hTB, hB, hin, hwr, hot, te_0, hsr, hsc, hsp, har, hac, hao, hab, hK⟩ ⟨hc, had, hjj, hoo⟩ ⟨te_zrHi hj, Or.inl rfl⟩
  · intro post h
    unfold wpX_takeSecond
    refine br_f (by decide) (br_t rfl ?_)
    exact h
  · intro post h
    refine br_t (nI_le (a := 4) (b := 4) (by omega) (by omega)) (br_f (by decide) (br_t rfl ?_))
    unfold wY_shortSequence_123 wpY_moveShort
    refine br_t rfl ?_
    exact h
theorem te_s1_68 (hA : te_A R C P T B ins wr ot wt SR SC SP AR AC AO AB K) (hF : te_F ot ce ad aq) (hj : ∀ j, 4 ≤ j → nu j = nq j) : te_St ((nI R), (nI C), (nI P), (nI T), (nI B), ins, wr, ot, wt, (nI SR), (nI SC), (nI SP), (nI AR), (nI AC), (nI AO), (nI AB), (nI K), (nI 1), ma, mk, se, ce, ad, sh, kp, nu) ((nI R), (nI C), (nI P), (nI T), (nI B), ins, wr, ot, wt, (nI SR), (nI SC), (nI SP), (nI AR), (nI AC), (nI AO), (nI AB), (nI K), (nI 1), bg, mq, mn, ce, sh, aq, kp, nq) 68 := by
  obtain ⟨hR, hC, hP, hTB, hB, hin, hwr, hot, hwt, hsr, hsc, hsp, har, hac, hao, hab, hK⟩ := hA
  obtain ⟨hc, had, hjj, hoo⟩ := hF
  have hl := te_lfOk (q := te_q ot T) (T := T) (B := B) (R := R) (kp := kp) hK hc
  refine ⟨((nI (te_lfR R B)), (nI C), (nI P), (nI T), (nI B), ins, wr, ot, 0, (nI SR), (nI SC), (nI SP), (nI AR), (nI AC), (nI AO), (nI AB), (nI (te_lfW (te_q ot T) T B R K ce kp).1), 0, ma, mk, se, ((te_lfW (te_q ot T) T B R K ce kp).2.1), ad, sh, ((te_lfW (te_q ot T) T B R K ce kp).2.2), nu), ((nI (te_lfR R B)), (nI C), (nI P), (nI T), (nI B), ins, wr, ot, 0, (nI SR), (nI SC), (nI SP), (nI AR), (nI AC), (nI AO), (nI AB), (nI (te_lfW (te_q ot T) T B R K ce kp).1), 0, 0, 0, 1, ((te_lfW (te_q ot T) T B R K ce kp).2.1), sh, aq, ((te_lfW (te_q ot T) T B R K ce kp).2.2), (te_zr nq 4)), ?_, te_x1in (b := 68) (by omega) (by omega) ?_, te_y1in (b := 68) (by omega) (Or.inr (Or.inr ⟨by omega, by omega, rfl⟩)) ?_⟩
  · exact te_mk (S := 0) ⟨te_lfR6 hR, hC, hP, hTB, hB, hin, hwr, hot, te_0, hsr, hsc, hsp, har, hac, hao, hab, hl.1⟩ ⟨hl.2, had, hjj, hoo⟩ ⟨te_zrHi hj, Or.inl rfl⟩
  · intro post h
    unfold wpX_takeSecond
    refine br_f (by decide) (br_f (by decide) (br_t rfl ?_))
    refine te_xlineFeed hTB hB hR hK ?_
    exact h
  · intro post h
    refine br_t (nI_le (a := 4) (b := 4) (by omega) (by omega)) (br_f (by decide) (br_f (by decide) (br_t rfl ?_)))
    unfold wY_shortSequence_123 wpY_moveShort
    refine br_f (by decide) (br_f (by decide) (br_f (by decide) (br_f (by decide) ?_)))
    unfold wY_moveShort_117
    refine te_ylineFeed hTB hB hR hK hc ?_
    exact h
theorem te_s1_69 (hA : te_A R C P T B ins wr ot wt SR SC SP AR AC AO AB K) (hF : te_F ot ce ad aq) (hj : ∀ j, 4 ≤ j → nu j = nq j) : te_St ((nI R), (nI C), (nI P), (nI T), (nI B), ins, wr, ot, wt, (nI SR), (nI SC), (nI SP), (nI AR), (nI AC), (nI AO), (nI AB), (nI K), (nI 1), ma, mk, se, ce, ad, sh, kp, nu) ((nI R), (nI C), (nI P), (nI T), (nI B), ins, wr, ot, wt, (nI SR), (nI SC), (nI SP), (nI AR), (nI AC), (nI AO), (nI AB), (nI K), (nI 1), bg, mq, mn, ce, sh, aq, kp, nq) 69 := by
  obtain ⟨hR, hC, hP, hTB, hB, hin, hwr, hot, hwt, hsr, hsc, hsp, har, hac, hao, hab, hK⟩ := hA
  obtain ⟨hc, had, hjj, hoo⟩ := hF
  have hl := te_lfOk (q := te_q ot T) (T := T) (B := B) (R := R) (kp := kp) hK hc
  refine ⟨((nI (te_lfR R B)), 0, (nI P), (nI T), (nI B), ins, wr, ot, 0, (nI SR), (nI SC), (nI SP), (nI AR), (nI AC), (nI AO), (nI AB), (nI (te_lfW (te_q ot T) T B R K ce kp).1), 0, ma, mk, se, ((te_lfW (te_q ot T) T B R K ce kp).2.1), ad, sh, ((te_lfW (te_q ot T) T B R K ce kp).2.2), nu), ((nI (te_lfR R B)), 0, (nI P), (nI T), (nI B), ins, wr, ot, 0, (nI SR), (nI SC), (nI SP), (nI AR), (nI AC), (nI AO), (nI AB), (nI (te_lfW (te_q ot T) T B R K ce kp).1), 0, 0, 0, 1, ((te_lfW (te_q ot T) T B R K ce kp).2.1), sh, aq, ((te_lfW (te_q ot T) T B R K ce kp).2.2), (te_zr nq 4)), ?_, te_x1in (b := 69) (by omega) (by omega) ?_, te_y1in (b := 69) (by omega) (Or.inr (Or.inr ⟨by omega, by omega, rfl⟩)) ?_⟩
  · exact te_mk (S := 0) (C := 0) ⟨te_lfR6 hR, (by omega), hP, hTB, hB, hin, hwr, hot, te_0, hsr, hsc, hsp, har, hac, hao, hab, hl.1⟩ ⟨hl.2, had, hjj, hoo⟩ ⟨te_zrHi hj, Or.inl rfl⟩
  · intro post h
    unfold wpX_takeSecond
    refine br_f (by decide) (br_f (by decide) (br_f (by decide) (br_t rfl ?_)))
    refine te_xlineFeed hTB hB hR hK ?_
    exact h
  · intro post h
    refine br_t (nI_le (a := 4) (b := 4) (by omega) (by omega)) (br_f (by decide) (br_f (by decide) (br_f (by decide) (br_t rfl ?_))))
    unfold wY_shortSequence_123 wpY_moveShort
    refine br_f (by decide) (br_f (by decide) (br_f (by decide) (br_t rfl ?_)))
    unfold wY_moveShort_117
    refine te_ylineFeed hTB hB hR hK hc ?_
    exact h
theorem te_s1_77 (hA : te_A R C P T B ins wr ot wt SR SC SP AR AC AO AB K) (hF : te_F ot ce ad aq) (hj : ∀ j, 4 ≤ j → nu j = nq j) : te_St ((nI R), (nI C), (nI P), (nI T), (nI B), ins, wr, ot, wt, (nI SR), (nI SC), (nI SP), (nI AR), (nI AC), (nI AO), (nI AB), (nI K), (nI 1), ma, mk, se, ce, ad, sh, kp, nu) ((nI R), (nI C), (nI P), (nI T), (nI B), ins, wr, ot, wt, (nI SR), (nI SC), (nI SP), (nI AR), (nI AC), (nI AO), (nI AB), (nI K), (nI 1), bg, mq, mn, ce, sh, aq, kp, nq) 77 := by
  obtain ⟨hR, hC, hP, hTB, hB, hin, hwr, hot, hwt, hsr, hsc, hsp, har, hac, hao, hab, hK⟩ := hA
  obtain ⟨hc, had, hjj, hoo⟩ := hF
  have h6 : te_rlR R T < 6 := by unfold te_rlR; split <;> omega
  have hg : te_rg (te_rlC R T B ce) := by
    unfold te_rlC
    split
    · exact te_rgMo hc _ _ _
    · exact hc
  refine ⟨((nI (te_rlR R T)), (nI C), (nI P), (nI T), (nI B), ins, wr, ot, 0, (nI SR), (nI SC), (nI SP), (nI AR), (nI AC), (nI AO), (nI AB), (nI K), 0, ma, mk, se, (te_rlC R T B ce), ad, sh, kp, nu), ((nI (te_rlR R T)), (nI C), (nI P), (nI T), (nI B), ins, wr, ot, 0, (nI SR), (nI SC), (nI SP), (nI AR), (nI AC), (nI AO), (nI AB), (nI K), 0, 0, 0, 1, (te_rlC R T B ce), sh, aq, kp, (te_zr nq 4)), ?_, te_x1in (b := 77) (by omega) (by omega) ?_, te_y1in (b := 77) (by omega) (Or.inr (Or.inr ⟨by omega, by omega, rfl⟩)) ?_⟩
  · exact te_mk (S := 0) ⟨h6, hC, hP, hTB, hB, hin, hwr, hot, te_0, hsr, hsc, hsp, har, hac, hao, hab, hK⟩ ⟨hg, had, hjj, hoo⟩ ⟨te_zrHi hj, Or.inl rfl⟩
  · intro post h
    unfold wpX_takeSecond
    refine br_f (by decide) (br_f (by decide) (br_f (by decide) (br_f (by decide) (br_t rfl ?_))))
    refine te_xreverse hTB hB hR ?_
    exact h
  · intro post h
    refine br_t (nI_le (a := 4) (b := 4) (by omega) (by omega)) (br_f (by decide) (br_f (by decide) (br_f (by decide) (br_f (by decide) (br_t rfl ?_)))))
    unfold wY_shortSequence_123 wpY_moveShort
    refine br_f (by decide) (br_t rfl ?_)
    by_cases h1 : R = T
    · have e1 : te_rlR R T = R := if_pos h1
      have e2 : te_rlC R T B ce = te_mo ce (12 * T) (12 * (B + 1)) 12 := if_pos h1
      rw [e1, e2] at h
      refine br_t (congrArg nI h1) ?_
      refine te_yrowsDown T B rfl rfl hTB hB ?_
      exact h
    · have e1 : te_rlR R T = R - 1 := if_neg h1
      have e2 : te_rlC R T B ce = ce := if_neg h1
      rw [e1, e2] at h
      refine br_f (te_ne h1 (by omega) (by omega)) ?_
      by_cases h0 : R = 0
      · subst h0
        exact br_t (nI_le (a := 0) (b := 0) (by omega) (by omega)) h
      · exact br_f (nI_nle (by omega) (by omega)) (nm_r (te_ns1 (by omega)) h)
theorem te_s1_99 (hA : te_A R C P T B ins wr ot wt SR SC SP AR AC AO AB K) (hF : te_F ot ce ad aq) (hj : ∀ j, 4 ≤ j → nu j = nq j) : te_St ((nI R), (nI C), (nI P), (nI T), (nI B), ins, wr, ot, wt, (nI SR), (nI SC), (nI SP), (nI AR), (nI AC), (nI AO), (nI AB), (nI K), (nI 1), ma, mk, se, ce, ad, sh, kp, nu) ((nI R), (nI C), (nI P), (nI T), (nI B), ins, wr, ot, wt, (nI SR), (nI SC), (nI SP), (nI AR), (nI AC), (nI AO), (nI AB), (nI K), (nI 1), bg, mq, mn, ce, sh, aq, kp, nq) 99 := by
  obtain ⟨hR, hC, hP, hTB, hB, hin, hwr, hot, hwt, hsr, hsc, hsp, har, hac, hao, hab, hK⟩ := hA
  obtain ⟨hc, had, hjj, hoo⟩ := hF
  refine ⟨(0, 0, 0, 0, 5, 0, 1, 0, 0, 0, 0, 0, (nI AR), (nI AC), (nI AO), (nI AB), 0, 0, ma, mk, se, (te_cl ce 0 72), ad, sh, kp, nu), (0, 0, 0, 0, 5, 0, 1, 0, 0, 0, 0, 0, (nI AR), (nI AC), (nI AO), (nI AB), 0, 0, 0, 0, 1, (te_cl ce 0 72), sh, aq, kp, (te_zr nq 4)), ?_, te_x1in (b := 99) (by omega) (by omega) ?_, te_y1in (b := 99) (by omega) (Or.inr (Or.inr ⟨by omega, by omega, rfl⟩)) ?_⟩
  · exact te_mk (S := 0) (R := 0) (C := 0) (P := 0) (T := 0) (B := 5) (SR := 0) (SC := 0) (SP := 0) (K := 0) ⟨(by omega), (by omega), (by omega), (by omega), (by omega), te_0, te_1, te_0, te_0, (by omega), (by omega), (by omega), har, hac, hao, hab, (by omega)⟩ ⟨te_rgCl hc _ _, had, hjj, Or.inl rfl⟩ ⟨te_zrHi hj, Or.inl rfl⟩
  · intro post h
    unfold wpX_takeSecond
    refine br_f (by decide) (br_f (by decide) (br_f (by decide) (br_f (by decide) (br_f (by decide) (br_f (by decide) (br_t rfl ?_))))))
    refine te_xstart ?_
    exact h
  · intro post h
    refine br_t (nI_le (a := 4) (b := 4) (by omega) (by omega)) (br_f (by decide) (br_f (by decide) (br_f (by decide) (br_f (by decide) (br_f (by decide) (br_t rfl ?_))))))
    unfold wY_shortSequence_123 wpY_moveShort
    refine br_f (by decide) (br_f (by decide) (br_t rfl ?_))
    refine te_yrenew ?_
    exact h
theorem te_st1 (hA : te_A R C P T B ins wr ot wt SR SC SP AR AC AO AB K) (hF : te_F ot ce ad aq) (hj : ∀ j, 4 ≤ j → nu j = nq j) (hb : b < 128) : te_St ((nI R), (nI C), (nI P), (nI T), (nI B), ins, wr, ot, wt, (nI SR), (nI SC), (nI SP), (nI AR), (nI AC), (nI AO), (nI AB), (nI K), (nI 1), ma, mk, se, ce, ad, sh, kp, nu) ((nI R), (nI C), (nI P), (nI T), (nI B), ins, wr, ot, wt, (nI SR), (nI SC), (nI SP), (nI AR), (nI AC), (nI AO), (nI AB), (nI K), (nI 1), bg, mq, mn, ce, sh, aq, kp, nq) (nI b) := by
  by_cases h27 : b = 27
  · subst h27
    refine ⟨((nI R), (nI C), (nI P), (nI T), (nI B), ins, wr, ot, wt, (nI SR), (nI SC), (nI SP), (nI AR), (nI AC), (nI AO), (nI AB), (nI K), (nI 1), ma, mk, se, ce, ad, sh, kp, nu), ((nI R), (nI C), (nI P), (nI T), (nI B), ins, wr, ot, wt, (nI SR), (nI SC), (nI SP), (nI AR), (nI AC), (nI AO), (nI AB), (nI K), (nI 1), 0, 0, 1, ce, sh, aq, kp, (te_zr nq 4)), ?_, ?_, te_y1in (b := 27) (by omega) (Or.inr (Or.inl ⟨rfl, rfl⟩)) ?_⟩
    · exact te_mk (S := 1) hA hF ⟨te_zrHi hj, Or.inr (Or.inl rfl)⟩
    · exact fun post h => br_t rfl h
    · intro post h
      exact br_t (nI_le (a := 4) (b := 4) (by omega) (by omega)) (br_f (by decide) (br_f (by decide) (br_f (by decide) (br_f (by decide) (br_f (by decide) (br_f (by decide) h))))))
  by_cases h91 : b = 91
  · subst h91
    exact te_s1_91 hA hF hj
  by_cases h55 : b = 55
  · subst h55
    exact te_s1_55 hA hF hj
  by_cases h56 : b = 56
  · subst h56
    exact te_s1_56 hA hF hj
  by_cases h68 : b = 68
  · subst h68
    exact te_s1_68 hA hF hj
  by_cases h69 : b = 69
  · subst h69
    exact te_s1_69 hA hF hj
  by_cases h77 : b = 77
  · subst h77
    exact te_s1_77 hA hF hj
  by_cases h99 : b = 99
  · subst h99
    exact te_s1_99 hA hF hj
  have g91 : ¬ nI b = 91 := te_ne (b := 91) h91 (by omega) (by omega)
  have g55 : ¬ nI b = 55 := te_ne (b := 55) h55 (by omega) (by omega)
  have g56 : ¬ nI b = 56 := te_ne (b := 56) h56 (by omega) (by omega)
  have g68 : ¬ nI b = 68 := te_ne (b := 68) h68 (by omega) (by omega)
  have g69 : ¬ nI b = 69 := te_ne (b := 69) h69 (by omega) (by omega)
  have g77 : ¬ nI b = 77 := te_ne (b := 77) h77 (by omega) (by omega)
  have g99 : ¬ nI b = 99 := te_ne (b := 99) h99 (by omega) (by omega)
  refine ⟨((nI R), (nI C), (nI P), (nI T), (nI B), ins, wr, ot, wt, (nI SR), (nI SC), (nI SP), (nI AR), (nI AC), (nI AO), (nI AB), (nI K), 0, ma, mk, se, ce, ad, sh, kp, nu), ((nI R), (nI C), (nI P), (nI T), (nI B), ins, wr, ot, wt, (nI SR), (nI SC), (nI SP), (nI AR), (nI AC), (nI AO), (nI AB), (nI K), 0, 0, 0, 1, ce, sh, aq, kp, (te_zr nq 4)), ?_, te_x1in h27 hb ?_, te_y1in hb (Or.inr (Or.inr ⟨h91, h27, rfl⟩)) ?_⟩
  · exact te_mk (S := 0) hA hF ⟨te_zrHi hj, Or.inl rfl⟩
  · intro post h
    exact br_f g55 (br_f g56 (br_f g68 (br_f g69 (br_f g77 (br_f g91 (br_f g99 h))))))
  · intro post h
    exact br_t (nI_le (a := 4) (b := 4) (by omega) (by omega)) (br_f g55 (br_f g56 (br_f g68 (br_f g69 (br_f g77 (br_f g99 h))))))
end
end
section
/-! a byte outside of a sequence -/
def te_sC (C : Nat) : Nat := if C = 11 then 11 else C + 1
def te_sw (C : Nat) (wr : Int32) : Int32 := if C = 11 then wr else 0
def te_sg (ins : Int32) (R C : Nat) (c : Nat → Int32) (v : Int32) : Nat → Int32 := upd (if ins = 0 then c else te_mo c (12 * R + C) (12 * R + 12) 1) (12 * R + C) v
theorem te_sgRg {ins : Int32} {R C m : Nat} {c : Nat → Int32} (h : te_rg c) (hm : m < 1024) : te_rg (te_sg ins R C c (nI m)) := by
  unfold te_sg
  split
  · exact te_rgU h hm
  · exact te_rgU (te_rgMo h _ _ _) hm
theorem te_sign (b P : Nat) : nI b + 128 * nI P = nI (b + 128 * P) := by
  rw [show (128 : Int32) * nI P = nI (128 * P) from pk_mul 128 P, nI_add]
section
variable {R C P T B SR SC SP AR AC AO AB K : Nat} {ins wr ot wt st ma mk se bg mq mn : Int32} {ce ad aq sh kp nu nq : Nat → Int32} {b : Nat}
theorem te_x16 {post : SX → Prop} (hR : R < 6) (hC : C < 12) (hwr : te_b01 wr) (h : post ((nI R), (nI (te_sC C)), (nI P), (nI T), (nI B), ins, wr, ot, (te_sw C wr), (nI SR), (nI SC), (nI SP), (nI AR), (nI AC), (nI AO), (nI AB), (nI K), st, ma, mk, se, (te_sg ins R C ce (nI (b + 128 * P))), ad, sh, kp, nu)) : wX_putSign_16 post (nI b) (nI R) (nI C) (nI P) (nI T) (nI B) ins wr ot wt (nI SR) (nI SC) (nI SP) (nI AR) (nI AC) (nI AO) (nI AB) (nI K) st ma mk se ce ad sh kp nu := by
  unfold wX_putSign_16
  refine nm_r (te_ix R C) ?_
  have G : ∀ c : Nat → Int32, upd c (12 * R + C) (nI (b + 128 * P)) = te_sg ins R C ce (nI (b + 128 * P)) → wX_putSign_56 post (nI b) (nI (12 * R + C)) (nI R) (nI C) (nI P) (nI T) (nI B) ins wr ot 0 (nI SR) (nI SC) (nI SP) (nI AR) (nI AC) (nI AO) (nI AB) (nI K) st ma mk se c ad sh kp nu := by
    intro c ec
    unfold wX_putSign_56
    refine ⟨vp_in_nI (by omega) (by omega), nm_r (e' := te_sg ins R C ce (nI (b + 128 * P))) ?_ ?_⟩
    · rw [nI_clamp (by omega), te_sign]
      exact ec
    · unfold te_sC te_sw at h
      by_cases h11 : C = 11
      · rw [if_pos h11, if_pos h11] at h
        subst h11
        exact br_t rfl ⟨te_nb hwr, te_fb hwr, h⟩
      · rw [if_neg h11, if_neg h11] at h
        exact br_f (te_ne (b := 11) h11 (by omega) (by omega)) (nm_r (nI_1 C) h)
  by_cases h0 : ins = 0
  · refine br_t h0 (G ce ?_)
    unfold te_sg
    rw [if_pos h0]
  · refine br_f h0 ?_
    refine te_xmoveOn (12 * R + C) (12 * R + 12) 1 rfl ?_ rfl (by omega) (by omega) (by omega) (by omega) ?_
    · rw [te_b12]
      exact congrArg nI (by omega)
    · refine G _ ?_
      unfold te_sg
      rw [if_neg h0]
theorem te_y16 {post : SY → Prop} (hR : R < 6) (hC : C < 12) (hwr : te_b01 wr) (h : post ((nI R), (nI (te_sC C)), (nI P), (nI T), (nI B), ins, wr, ot, (te_sw C wr), (nI SR), (nI SC), (nI SP), (nI AR), (nI AC), (nI AO), (nI AB), (nI K), st, bg, mq, mn, (te_sg ins R C ce (nI (b + 128 * P))), sh, aq, kp, nq)) : wY_write_16 post (nI b) (nI R) (nI C) (nI P) (nI T) (nI B) ins wr ot wt (nI SR) (nI SC) (nI SP) (nI AR) (nI AC) (nI AO) (nI AB) (nI K) st bg mq mn ce sh aq kp nq := by
  have G : ∀ c : Nat → Int32, upd c (12 * R + C) (nI (b + 128 * P)) = te_sg ins R C ce (nI (b + 128 * P)) → wY_write_28 post (nI b) (nI R) (nI C) (nI P) (nI T) (nI B) ins wr ot wt (nI SR) (nI SC) (nI SP) (nI AR) (nI AC) (nI AO) (nI AB) (nI K) st bg mq mn c sh aq kp nq := by
    intro c ec
    unfold wY_write_28
    refine ⟨?_, nm_r (e' := te_sg ins R C ce (nI (b + 128 * P))) ?_ ?_⟩
    · rw [te_iy]
      exact vp_in_nI (by omega) (by omega)
    · rw [te_iy, nI_clamp (by omega), te_sign]
      exact ec
    · unfold te_sC te_sw at h
      by_cases h11 : C = 11
      · rw [if_pos h11, if_pos h11] at h
        subst h11
        have J : ∀ z : Int32, te_b01 z → z = wr → wY_write_77 post z (nI R) (nI 11) (nI P) (nI T) (nI B) ins wr ot wt (nI SR) (nI SC) (nI SP) (nI AR) (nI AC) (nI AO) (nI AB) (nI K) st bg mq mn (te_sg ins R 11 ce (nI (b + 128 * P))) sh aq kp nq := by
          intro z hz ez
          subst ez
          exact And.intro (te_nb hz) (And.intro (te_fb hz) (br_t (nI_le (a := 11) (b := 11) (by omega) (by omega)) h))
        exact br_t rfl (br_c (fun z => J 0 te_0 z.symm) (fun z => J 1 te_1 (te_b1 hwr z).symm))
      · rw [if_neg h11, if_neg h11] at h
        refine br_f (te_ne (b := 11) h11 (by omega) (by omega)) ?_
        exact And.intro (te_nb te_0) (And.intro (te_fb te_0) (br_f (nI_ge (b := 11) (by omega) (by omega)) (nm_r (nI_1 C) h)))
  unfold wY_write_16
  by_cases h0 : ins = 0
  · refine br_t h0 (G ce ?_)
    unfold te_sg
    rw [if_pos h0]
  · refine br_f h0 ?_
    refine te_yputIn 1 rfl hR hC (by omega) ?_
    refine G _ ?_
    unfold te_sg
    rw [if_neg h0]
theorem te_x0s {Z : SX} (h1 : 32 ≤ b) (h2 : b ≤ 126) (h : te_To (fun t => wpX_putSign t ((nI R), (nI C), (nI P), (nI T), (nI B), ins, wr, ot, wt, (nI SR), (nI SC), (nI SP), (nI AR), (nI AC), (nI AO), (nI AB), (nI K), (nI 0), ma, mk, se, ce, ad, sh, kp, nu) (nI b)) Z) : te_To (fun t => wpX_take t ((nI R), (nI C), (nI P), (nI T), (nI B), ins, wr, ot, wt, (nI SR), (nI SC), (nI SP), (nI AR), (nI AC), (nI AO), (nI AB), (nI K), (nI 0), ma, mk, se, ce, ad, sh, kp, nu) (nI b)) Z := by
  obtain ⟨z1, z2, z3, z4, z5, z6, z7, z8, z9, z10, z11, z12, z13, z14, z15, z16, z17, z18, z19, z20, z21, z22, z23, z24, z25, z26⟩ := Z
  intro post hz
  refine br_f (te_ne (b := 27) (by omega) (by omega) (by omega)) (br_f (by decide) (br_f (by decide) (br_f (nI_nlt (b := 32) h1 (by omega)) (br_f (nI_nlt (a := 126) h2 (by omega)) (h _ ?_)))))
  exact hz
theorem te_y0in {Z : SY} (hb : b < 128) (h : te_To (fun t => wpY_plain t ((nI R), (nI C), (nI P), (nI T), (nI B), ins, wr, ot, wt, (nI SR), (nI SC), (nI SP), (nI AR), (nI AC), (nI AO), (nI AB), (nI K), (nI 0), bg, mq, mn, ce, sh, aq, kp, nq) (nI b)) Z) : ∀ post : Int32 → SY → Prop, post 1 Z → wpY_feed post ((nI R), (nI C), (nI P), (nI T), (nI B), ins, wr, ot, wt, (nI SR), (nI SC), (nI SP), (nI AR), (nI AC), (nI AO), (nI AB), (nI K), (nI 0), bg, mq, mn, ce, sh, aq, kp, nq) (nI b) := by
  obtain ⟨z1, z2, z3, z4, z5, z6, z7, z8, z9, z10, z11, z12, z13, z14, z15, z16, z17, z18, z19, z20, z21, z22, z23, z24, z25, z26⟩ := Z
  intro post hz
  refine br_f (nI_pos (by omega)) (br_t (nI_le (b := 127) (by omega) (by omega)) (br_t rfl (h _ ?_)))
  exact hz
theorem te_y0s {Z : SY} (h1 : 32 ≤ b) (h2 : b ≤ 126) (h : te_To (fun t => wpY_write t ((nI R), (nI C), (nI P), (nI T), (nI B), ins, wr, ot, wt, (nI SR), (nI SC), (nI SP), (nI AR), (nI AC), (nI AO), (nI AB), (nI K), (nI 0), bg, mq, mn, ce, sh, aq, kp, nq) (nI b)) Z) : te_To (fun t => wpY_plain t ((nI R), (nI C), (nI P), (nI T), (nI B), ins, wr, ot, wt, (nI SR), (nI SC), (nI SP), (nI AR), (nI AC), (nI AO), (nI AB), (nI K), (nI 0), bg, mq, mn, ce, sh, aq, kp, nq) (nI b)) Z := by
  obtain ⟨z1, z2, z3, z4, z5, z6, z7, z8, z9, z10, z11, z12, z13, z14, z15, z16, z17, z18, z19, z20, z21, z22, z23, z24, z25, z26⟩ := Z
  intro post hz
  refine br_f (nI_nlt (b := 32) h1 (by omega)) (br_f (nI_nlt (a := 126) h2 (by omega)) (h _ ?_))
  exact hz
/-- a control byte -/
theorem te_x0c {Z : SX} (hb : b < 128) (h27 : b ≠ 27) (hl : b < 32 ∨ 126 < b) (h : te_To (fun t => wpX_takeControl t ((nI R), (nI C), (nI P), (nI T), (nI B), ins, wr, ot, wt, (nI SR), (nI SC), (nI SP), (nI AR), (nI AC), (nI AO), (nI AB), (nI K), (nI 0), ma, mk, se, ce, ad, sh, kp, nu) (nI b)) Z) : te_To (fun t => wpX_take t ((nI R), (nI C), (nI P), (nI T), (nI B), ins, wr, ot, wt, (nI SR), (nI SC), (nI SP), (nI AR), (nI AC), (nI AO), (nI AB), (nI K), (nI 0), ma, mk, se, ce, ad, sh, kp, nu) (nI b)) Z := by
  obtain ⟨z1, z2, z3, z4, z5, z6, z7, z8, z9, z10, z11, z12, z13, z14, z15, z16, z17, z18, z19, z20, z21, z22, z23, z24, z25, z26⟩ := Z
  intro post hz
  refine br_f (te_ne (b := 27) h27 (by omega) (by omega)) (br_f (by decide) (br_f (by decide) ?_))
  by_cases h32 : b < 32
  · refine br_t (nI_lt (b := 32) h32 (by omega)) ?_
    unfold wX_take_66
    refine h _ ?_
    exact hz
  · refine br_f (nI_nlt (b := 32) (by omega) (by omega)) (br_t (nI_lt (a := 126) (by omega) (by omega)) ?_)
    unfold wX_take_66
    refine h _ ?_
    exact hz
theorem te_y0c {Z : SY} (hb : b < 128) (hl : b < 32 ∨ 126 < b) (h : te_To (fun t => wY_plain_20 t (nI b) (nI R) (nI C) (nI P) (nI T) (nI B) ins wr ot wt (nI SR) (nI SC) (nI SP) (nI AR) (nI AC) (nI AO) (nI AB) (nI K) (nI 0) bg mq mn ce sh aq kp nq) Z) : te_To (fun t => wpY_plain t ((nI R), (nI C), (nI P), (nI T), (nI B), ins, wr, ot, wt, (nI SR), (nI SC), (nI SP), (nI AR), (nI AC), (nI AO), (nI AB), (nI K), (nI 0), bg, mq, mn, ce, sh, aq, kp, nq) (nI b)) Z := by
  intro post hz
  by_cases h32 : b < 32
  · exact br_t (nI_lt (b := 32) h32 (by omega)) (h _ hz)
  · exact br_f (nI_nlt (b := 32) (by omega) (by omega)) (br_t (nI_lt (a := 126) (by omega) (by omega)) (h _ hz))
theorem te_s0s (hA : te_A R C P T B ins wr ot wt SR SC SP AR AC AO AB K) (hF : te_F ot ce ad aq) (hj : ∀ j, 4 ≤ j → nu j = nq j) (h1 : 32 ≤ b) (h2 : b ≤ 126) : te_St ((nI R), (nI C), (nI P), (nI T), (nI B), ins, wr, ot, wt, (nI SR), (nI SC), (nI SP), (nI AR), (nI AC), (nI AO), (nI AB), (nI K), (nI 0), ma, mk, se, ce, ad, sh, kp, nu) ((nI R), (nI C), (nI P), (nI T), (nI B), ins, wr, ot, wt, (nI SR), (nI SC), (nI SP), (nI AR), (nI AC), (nI AO), (nI AB), (nI K), (nI 0), bg, mq, mn, ce, sh, aq, kp, nq) (nI b) := by
  obtain ⟨hR, hC, hP, hTB, hB, hin, hwr, hot, hwt, hsr, hsc, hsp, har, hac, hao, hab, hK⟩ := hA
  obtain ⟨hc, had, hjj, hoo⟩ := hF
  by_cases hw0 : wt = 0
  · refine ⟨((nI R), (nI (te_sC C)), (nI P), (nI T), (nI B), ins, wr, ot, (te_sw C wr), (nI SR), (nI SC), (nI SP), (nI AR), (nI AC), (nI AO), (nI AB), (nI K), (nI 0), ma, mk, se, (te_sg ins R C ce (nI (b + 128 * P))), ad, sh, kp, nu), ((nI R), (nI (te_sC C)), (nI P), (nI T), (nI B), ins, wr, ot, (te_sw C wr), (nI SR), (nI SC), (nI SP), (nI AR), (nI AC), (nI AO), (nI AB), (nI K), (nI 0), bg, mq, mn, (te_sg ins R C ce (nI (b + 128 * P))), sh, aq, kp, nq), ?_, te_x0s h1 h2 ?_, te_y0in (by omega) (te_y0s h1 h2 ?_)⟩
    · have h6 : te_sC C < 12 := by unfold te_sC; split <;> omega
      have h7 : te_b01 (te_sw C wr) := by
        unfold te_sw
        split
        · exact hwr
        · exact te_0
      exact te_mk (S := 0) ⟨hR, h6, hP, hTB, hB, hin, hwr, hot, h7, hsr, hsc, hsp, har, hac, hao, hab, hK⟩ ⟨te_sgRg hc (by omega), had, hjj, hoo⟩ ⟨hj, Or.inl rfl⟩
    · intro post h
      refine br_t hw0 ?_
      exact te_x16 hR hC hwr h
    · intro post h
      refine br_t hw0 ?_
      exact te_y16 hR hC hwr h
  · have hl := te_lfOk (q := te_q ot T) (T := T) (B := B) (R := R) (kp := kp) hK hc
    have hR' := te_lfR6 (B := B) hR
    refine ⟨((nI (te_lfR R B)), (nI (te_sC 0)), (nI P), (nI T), (nI B), ins, wr, ot, (te_sw 0 wr), (nI SR), (nI SC), (nI SP), (nI AR), (nI AC), (nI AO), (nI AB), (nI (te_lfW (te_q ot T) T B R K ce kp).1), (nI 0), ma, mk, se, (te_sg ins (te_lfR R B) 0 (te_lfW (te_q ot T) T B R K ce kp).2.1 (nI (b + 128 * P))), ad, sh, ((te_lfW (te_q ot T) T B R K ce kp).2.2), nu), ((nI (te_lfR R B)), (nI (te_sC 0)), (nI P), (nI T), (nI B), ins, wr, ot, (te_sw 0 wr), (nI SR), (nI SC), (nI SP), (nI AR), (nI AC), (nI AO), (nI AB), (nI (te_lfW (te_q ot T) T B R K ce kp).1), (nI 0), bg, mq, mn, (te_sg ins (te_lfR R B) 0 (te_lfW (te_q ot T) T B R K ce kp).2.1 (nI (b + 128 * P))), sh, aq, ((te_lfW (te_q ot T) T B R K ce kp).2.2), nq), ?_, te_x0s h1 h2 ?_, te_y0in (by omega) (te_y0s h1 h2 ?_)⟩
    · exact te_mk (S := 0) ⟨hR', (by decide), hP, hTB, hB, hin, hwr, hot, te_0, hsr, hsc, hsp, har, hac, hao, hab, hl.1⟩ ⟨te_sgRg hl.2 (by omega), had, hjj, hoo⟩ ⟨hj, Or.inl rfl⟩
    · intro post h
      refine br_f hw0 ?_
      refine te_xlineFeed hTB hB hR hK ?_
      exact te_x16 (C := 0) hR' (by omega) hwr h
    · intro post h
      refine br_f hw0 ?_
      refine te_ylineFeed hTB hB hR hK hc ?_
      exact te_y16 (C := 0) hR' (by omega) hwr h
theorem te_s0_8 (hA : te_A R C P T B ins wr ot wt SR SC SP AR AC AO AB K) (hF : te_F ot ce ad aq) (hj : ∀ j, 4 ≤ j → nu j = nq j) : te_St ((nI R), (nI C), (nI P), (nI T), (nI B), ins, wr, ot, wt, (nI SR), (nI SC), (nI SP), (nI AR), (nI AC), (nI AO), (nI AB), (nI K), (nI 0), ma, mk, se, ce, ad, sh, kp, nu) ((nI R), (nI C), (nI P), (nI T), (nI B), ins, wr, ot, wt, (nI SR), (nI SC), (nI SP), (nI AR), (nI AC), (nI AO), (nI AB), (nI K), (nI 0), bg, mq, mn, ce, sh, aq, kp, nq) 8 := by
  obtain ⟨hR, hC, hP, hTB, hB, hin, hwr, hot, hwt, hsr, hsc, hsp, har, hac, hao, hab, hK⟩ := hA
  obtain ⟨hc, had, hjj, hoo⟩ := hF
  have h6 : C - 1 < 12 := by omega
  refine ⟨((nI R), (nI (C - 1)), (nI P), (nI T), (nI B), ins, wr, ot, 0, (nI SR), (nI SC), (nI SP), (nI AR), (nI AC), (nI AO), (nI AB), (nI K), (nI 0), ma, mk, se, ce, ad, sh, kp, nu), ((nI R), (nI (C - 1)), (nI P), (nI T), (nI B), ins, wr, ot, 0, (nI SR), (nI SC), (nI SP), (nI AR), (nI AC), (nI AO), (nI AB), (nI K), (nI 0), bg, mq, mn, ce, sh, aq, kp, nq), ?_, te_x0c (b := 8) (by omega) (by omega) (by omega) ?_, te_y0in (b := 8) (by omega) (te_y0c (by omega) (by omega) ?_)⟩
  · exact te_mk (S := 0) ⟨hR, h6, hP, hTB, hB, hin, hwr, hot, te_0, hsr, hsc, hsp, har, hac, hao, hab, hK⟩ ⟨hc, had, hjj, hoo⟩ ⟨hj, Or.inl rfl⟩
  · intro post h
    refine br_f (by decide) (br_f (by decide) (br_t rfl ?_))
    refine te_xgreatS C 1 0 rfl rfl (by omega) (by omega) (by omega) ?_
    have e : te_dec C 1 0 = C - 1 := by unfold te_dec; split <;> omega
    rw [e]
    exact h
  · intro post h
    refine br_f (by decide) (br_t rfl ?_)
    unfold wY_plain_58
    refine br_f (by decide) ⟨by decide, nm_e (br_t rfl ?_)⟩
    by_cases h0 : C = 0
    · subst h0
      exact br_t (nI_le (a := 0) (b := 0) (by omega) (by omega)) h
    · exact br_f (nI_nle (by omega) (by omega)) (nm_r (te_ns1 (by omega)) h)
theorem te_s0_9 (hA : te_A R C P T B ins wr ot wt SR SC SP AR AC AO AB K) (hF : te_F ot ce ad aq) (hj : ∀ j, 4 ≤ j → nu j = nq j) : te_St ((nI R), (nI C), (nI P), (nI T), (nI B), ins, wr, ot, wt, (nI SR), (nI SC), (nI SP), (nI AR), (nI AC), (nI AO), (nI AB), (nI K), (nI 0), ma, mk, se, ce, ad, sh, kp, nu) ((nI R), (nI C), (nI P), (nI T), (nI B), ins, wr, ot, wt, (nI SR), (nI SC), (nI SP), (nI AR), (nI AC), (nI AO), (nI AB), (nI K), (nI 0), bg, mq, mn, ce, sh, aq, kp, nq) 9 := by
  obtain ⟨hR, hC, hP, hTB, hB, hin, hwr, hot, hwt, hsr, hsc, hsp, har, hac, hao, hab, hK⟩ := hA
  obtain ⟨hc, had, hjj, hoo⟩ := hF
  have h6 : te_min (4 * (C / 4 + 1)) 11 < 12 := Nat.lt_succ_of_le (te_minLe _ _)
  refine ⟨((nI R), (nI (te_min (4 * (C / 4 + 1)) 11)), (nI P), (nI T), (nI B), ins, wr, ot, 0, (nI SR), (nI SC), (nI SP), (nI AR), (nI AC), (nI AO), (nI AB), (nI K), (nI 0), ma, mk, se, ce, ad, sh, kp, nu), ((nI R), (nI (te_min (4 * (C / 4 + 1)) 11)), (nI P), (nI T), (nI B), ins, wr, ot, 0, (nI SR), (nI SC), (nI SP), (nI AR), (nI AC), (nI AO), (nI AB), (nI K), (nI 0), bg, mq, mn, ce, sh, aq, kp, nq), ?_, te_x0c (b := 9) (by omega) (by omega) (by omega) ?_, te_y0in (b := 9) (by omega) (te_y0c (by omega) (by omega) ?_)⟩
  · exact te_mk (S := 0) ⟨hR, h6, hP, hTB, hB, hin, hwr, hot, te_0, hsr, hsc, hsp, har, hac, hao, hab, hK⟩ ⟨hc, had, hjj, hoo⟩ ⟨hj, Or.inl rfl⟩
  · intro post h
    refine br_f (by decide) (br_f (by decide) (br_f (by decide) (br_t rfl ?_)))
    have e4 : nI C / 4 = nI (C / 4) := pk_div (d := 4) (by omega) (by omega) (by omega)
    refine ⟨by decide, ?_⟩
    refine te_xless (4 * (C / 4 + 1)) 11 ?_ rfl (by omega) (by omega) ?_
    · rw [e4, nI_1, show nI (C / 4 + 1) * 4 = nI ((C / 4 + 1) * 4) from pk_mul _ 4]
      exact congrArg nI (by omega)
    · exact h
  · intro post h
    refine br_f (by decide) (br_f (by decide) (br_t rfl ?_))
    unfold wY_plain_58
    have e4 : nI C / 4 = nI (C / 4) := pk_div (d := 4) (by omega) (by omega) (by omega)
    refine br_f (by decide) ⟨by decide, nm_r (e' := nI (4 * (C / 4 + 1))) ?_ (br_f (by decide) (br_f (by decide) ?_))⟩
    · rw [e4, show nI (C / 4) * 4 = nI (C / 4 * 4) from pk_mul _ 4, show nI (C / 4 * 4) + 4 = nI (C / 4 * 4 + 4) from nI_add _ 4]
      exact congrArg nI (by omega)
    · by_cases h11 : 4 * (C / 4 + 1) ≤ 11
      · have e : te_min (4 * (C / 4 + 1)) 11 = 4 * (C / 4 + 1) := by unfold te_min; split <;> omega
        rw [e] at h
        exact br_t (nI_le (b := 11) h11 (by omega)) h
      · rw [te_minA (by omega)] at h
        exact br_f (nI_ge (a := 11) (by omega) (by omega)) h
theorem te_s0_10 (hA : te_A R C P T B ins wr ot wt SR SC SP AR AC AO AB K) (hF : te_F ot ce ad aq) (hj : ∀ j, 4 ≤ j → nu j = nq j) : te_St ((nI R), (nI C), (nI P), (nI T), (nI B), ins, wr, ot, wt, (nI SR), (nI SC), (nI SP), (nI AR), (nI AC), (nI AO), (nI AB), (nI K), (nI 0), ma, mk, se, ce, ad, sh, kp, nu) ((nI R), (nI C), (nI P), (nI T), (nI B), ins, wr, ot, wt, (nI SR), (nI SC), (nI SP), (nI AR), (nI AC), (nI AO), (nI AB), (nI K), (nI 0), bg, mq, mn, ce, sh, aq, kp, nq) 10 := by
  obtain ⟨hR, hC, hP, hTB, hB, hin, hwr, hot, hwt, hsr, hsc, hsp, har, hac, hao, hab, hK⟩ := hA
  obtain ⟨hc, had, hjj, hoo⟩ := hF
  have hl := te_lfOk (q := te_q ot T) (T := T) (B := B) (R := R) (kp := kp) hK hc
  refine ⟨((nI (te_lfR R B)), (nI C), (nI P), (nI T), (nI B), ins, wr, ot, 0, (nI SR), (nI SC), (nI SP), (nI AR), (nI AC), (nI AO), (nI AB), (nI (te_lfW (te_q ot T) T B R K ce kp).1), (nI 0), ma, mk, se, ((te_lfW (te_q ot T) T B R K ce kp).2.1), ad, sh, ((te_lfW (te_q ot T) T B R K ce kp).2.2), nu), ((nI (te_lfR R B)), (nI C), (nI P), (nI T), (nI B), ins, wr, ot, 0, (nI SR), (nI SC), (nI SP), (nI AR), (nI AC), (nI AO), (nI AB), (nI (te_lfW (te_q ot T) T B R K ce kp).1), (nI 0), bg, mq, mn, ((te_lfW (te_q ot T) T B R K ce kp).2.1), sh, aq, ((te_lfW (te_q ot T) T B R K ce kp).2.2), nq), ?_, te_x0c (b := 10) (by omega) (by omega) (by omega) ?_, te_y0in (b := 10) (by omega) (te_y0c (by omega) (by omega) ?_)⟩
  · exact te_mk (S := 0) ⟨te_lfR6 hR, hC, hP, hTB, hB, hin, hwr, hot, te_0, hsr, hsc, hsp, har, hac, hao, hab, hl.1⟩ ⟨hl.2, had, hjj, hoo⟩ ⟨hj, Or.inl rfl⟩
  · intro post h
    refine br_f (by decide) (br_f (by decide) (br_f (by decide) (br_f (by decide) (br_t rfl ?_))))
    refine te_xlineFeed hTB hB hR hK ?_
    exact h
  · intro post h
    refine br_f (by decide) (br_f (by decide) (br_f (by decide) (br_t rfl ?_)))
    unfold wY_plain_58
    refine br_t rfl ?_
    refine te_ylineFeed hTB hB hR hK hc ?_
    exact h
theorem te_s0_13 (hA : te_A R C P T B ins wr ot wt SR SC SP AR AC AO AB K) (hF : te_F ot ce ad aq) (hj : ∀ j, 4 ≤ j → nu j = nq j) : te_St ((nI R), (nI C), (nI P), (nI T), (nI B), ins, wr, ot, wt, (nI SR), (nI SC), (nI SP), (nI AR), (nI AC), (nI AO), (nI AB), (nI K), (nI 0), ma, mk, se, ce, ad, sh, kp, nu) ((nI R), (nI C), (nI P), (nI T), (nI B), ins, wr, ot, wt, (nI SR), (nI SC), (nI SP), (nI AR), (nI AC), (nI AO), (nI AB), (nI K), (nI 0), bg, mq, mn, ce, sh, aq, kp, nq) 13 := by
  obtain ⟨hR, hC, hP, hTB, hB, hin, hwr, hot, hwt, hsr, hsc, hsp, har, hac, hao, hab, hK⟩ := hA
  obtain ⟨hc, had, hjj, hoo⟩ := hF
  refine ⟨((nI R), 0, (nI P), (nI T), (nI B), ins, wr, ot, 0, (nI SR), (nI SC), (nI SP), (nI AR), (nI AC), (nI AO), (nI AB), (nI K), (nI 0), ma, mk, se, ce, ad, sh, kp, nu), ((nI R), 0, (nI P), (nI T), (nI B), ins, wr, ot, 0, (nI SR), (nI SC), (nI SP), (nI AR), (nI AC), (nI AO), (nI AB), (nI K), (nI 0), bg, mq, mn, ce, sh, aq, kp, nq), ?_, te_x0c (b := 13) (by omega) (by omega) (by omega) ?_, te_y0in (b := 13) (by omega) (te_y0c (by omega) (by omega) ?_)⟩
  · exact te_mk (S := 0) (C := 0) ⟨hR, (by omega), hP, hTB, hB, hin, hwr, hot, te_0, hsr, hsc, hsp, har, hac, hao, hab, hK⟩ ⟨hc, had, hjj, hoo⟩ ⟨hj, Or.inl rfl⟩
  · intro post h
    refine br_f (by decide) (br_f (by decide) (br_f (by decide) (br_f (by decide) (br_f (by decide) (br_f (by decide) (br_f (by decide) (br_t rfl ?_)))))))
    exact h
  · intro post h
    refine br_f (by decide) (br_f (by decide) (br_f (by decide) (br_f (by decide) (br_t rfl ?_))))
    unfold wY_plain_58
    exact br_f (by decide) ⟨by decide, nm_e (br_f (by decide) (br_t rfl h))⟩
theorem te_st0 (hA : te_A R C P T B ins wr ot wt SR SC SP AR AC AO AB K) (hF : te_F ot ce ad aq) (hj : ∀ j, 4 ≤ j → nu j = nq j) (hb : b < 128) : te_St ((nI R), (nI C), (nI P), (nI T), (nI B), ins, wr, ot, wt, (nI SR), (nI SC), (nI SP), (nI AR), (nI AC), (nI AO), (nI AB), (nI K), (nI 0), ma, mk, se, ce, ad, sh, kp, nu) ((nI R), (nI C), (nI P), (nI T), (nI B), ins, wr, ot, wt, (nI SR), (nI SC), (nI SP), (nI AR), (nI AC), (nI AO), (nI AB), (nI K), (nI 0), bg, mq, mn, ce, sh, aq, kp, nq) (nI b) := by
  by_cases h27 : b = 27
  · subst h27
    refine ⟨((nI R), (nI C), (nI P), (nI T), (nI B), ins, wr, ot, wt, (nI SR), (nI SC), (nI SP), (nI AR), (nI AC), (nI AO), (nI AB), (nI K), (nI 1), ma, mk, se, ce, ad, sh, kp, nu), ((nI R), (nI C), (nI P), (nI T), (nI B), ins, wr, ot, wt, (nI SR), (nI SC), (nI SP), (nI AR), (nI AC), (nI AO), (nI AB), (nI K), (nI 1), bg, mq, mn, ce, sh, aq, kp, nq), ?_, ?_, te_y0in (b := 27) (by omega) (te_y0c (by omega) (by omega) ?_)⟩
    · exact te_mk (S := 1) hA hF ⟨hj, Or.inr (Or.inl rfl)⟩
    · exact fun post h => br_t rfl h
    · exact fun post h => br_t rfl h
  by_cases hs : 32 ≤ b ∧ b ≤ 126
  · exact te_s0s hA hF hj hs.1 hs.2
  by_cases h8 : b = 8
  · subst h8
    exact te_s0_8 hA hF hj
  by_cases h9 : b = 9
  · subst h9
    exact te_s0_9 hA hF hj
  by_cases h10 : b = 10
  · subst h10
    exact te_s0_10 hA hF hj
  by_cases h13 : b = 13
  · subst h13
    exact te_s0_13 hA hF hj
  refine ⟨((nI R), (nI C), (nI P), (nI T), (nI B), ins, wr, ot, wt, (nI SR), (nI SC), (nI SP), (nI AR), (nI AC), (nI AO), (nI AB), (nI K), (nI 0), ma, mk, se, ce, ad, sh, kp, nu), ((nI R), (nI C), (nI P), (nI T), (nI B), ins, wr, ot, wt, (nI SR), (nI SC), (nI SP), (nI AR), (nI AC), (nI AO), (nI AB), (nI K), (nI 0), bg, mq, mn, ce, sh, aq, kp, nq), ?_, te_x0c hb h27 (by omega) ?_, te_y0in hb (te_y0c hb (by omega) ?_)⟩
  · exact te_mk (S := 0) hA hF ⟨hj, Or.inl rfl⟩
  · intro post h
    by_cases h7 : b < 8
    · exact br_t (nI_lt (b := 8) h7 (by omega)) h
    refine br_f (nI_nlt (b := 8) (by omega) (by omega)) ?_
    by_cases h14 : 13 < b
    · exact br_t (nI_lt (a := 13) h14 (by omega)) h
    refine br_f (nI_nlt (a := 13) (by omega) (by omega)) ?_
    refine br_f (te_ne (b := 8) h8 (by omega) (by omega)) (br_f (te_ne (b := 9) h9 (by omega) (by omega)) (br_f (te_ne (b := 10) h10 (by omega) (by omega)) ?_))
    exact br_c (fun _ => h) (fun _ => br_c (fun _ => h) (fun _ => br_f (te_ne (b := 13) h13 (by omega) (by omega)) trivial))
  · intro post h
    exact br_f (te_ne (b := 27) h27 (by omega) (by omega)) (br_f (te_ne (b := 8) h8 (by omega) (by omega)) (br_f (te_ne (b := 9) h9 (by omega) (by omega)) (br_f (te_ne (b := 10) h10 (by omega) (by omega)) (br_f (te_ne (b := 13) h13 (by omega) (by omega)) h))))
end
end
section
/-! feed and feedThree -/
theorem te_step {u : SX} {v : SY} (I : te_R u v) (b : Nat) (hb : b < 128) : te_St u v (nI b) := by
  obtain ⟨R, C, P, T, B, ins, wr, ot, wt, SR, SC, SP, AR, AC, AO, AB, K, S, ma, mk, se, bg, mq, mn, ce, ad, aq, sh, kp, nu, nq, rfl, rfl, hA, hF, hj, hS⟩ := I
  rcases hS with rfl | rfl | ⟨rfl, hH⟩
  · exact te_st0 hA hF hj hb
  · exact te_st1 hA hF hj hb
  · exact te_st2 hA hF hH hb
theorem i_vc_feed {k : Nat} {u : SX} {v : SY} (I : i_Rel k u v) (hk : k + 3 ≤ 1536) (v1 : Int32) : wpX_feed (fun r u' => wpY_feed (fun r' v' => r' = r ∧ i_Rel (k + 3) u' v') v v1) u v1 := by
  have J : te_R u v := I
  obtain ⟨R, C, P, T, B, ins, wr, ot, wt, SR, SC, SP, AR, AC, AO, AB, K, S, ma, mk, se, bg, mq, mn, ce, ad, aq, sh, kp, nu, nq, rfl, rfl, hA, hF, hH⟩ := I
  by_cases h0 : v1 < 0
  · exact br_t h0 (br_t h0 ⟨rfl, J⟩)
  by_cases h1 : v1 ≤ 127
  · obtain ⟨b, hb, rfl⟩ := nI_of2 (n := 127) (M := 127) (by decide) h0 h1
    obtain ⟨u', v', hR, hX, hY⟩ := te_step J b (by omega)
    obtain ⟨R', C', P', T', B', ins', wr', ot', wt', SR', SC', SP', AR', AC', AO', AB', K', S', ma', mk', se', bg', mq', mn', ce', ad', aq', sh', kp', nu', nq', rfl, rfl, hA', hF', hH'⟩ := hR
    refine br_f h0 (br_t h1 (hX _ ?_))
    refine hY _ ?_
    exact ⟨rfl, te_mk hA' hF' hH'⟩
  · exact br_f h0 (br_f h1 (br_f h0 (br_f h1 ⟨rfl, J⟩)))
theorem i_vc_feedThree {k : Nat} {u : SX} {v : SY} (I : i_Rel k u v) (hk : k + 3 ≤ 1536) (v1 : Int32) : wpX_feedThree (fun r u' => wpY_feedThree (fun r' v' => r' = r ∧ i_Rel (k + 3) u' v') v v1) u v1 := by
  have J : te_R u v := I
  obtain ⟨R, C, P, T, B, ins, wr, ot, wt, SR, SC, SP, AR, AC, AO, AB, K, S, ma, mk, se, bg, mq, mn, ce, ad, aq, sh, kp, nu, nq, rfl, rfl, hA, hF, hH⟩ := I
  by_cases h0 : v1 < 0
  · exact br_t h0 (br_t h0 ⟨rfl, J⟩)
  by_cases h1 : v1 ≤ 2097151
  · obtain ⟨m, hm, rfl⟩ := nI_of2 (n := 2097151) (M := 2097151) (by decide) h0 h1
    have x1 : nI m &&& 127 = nI (m % 128) := pk_andN (by omega) 7 (by decide)
    have x2 : (nI m >>> ((7 : Int32) &&& 31)) &&& 127 = nI (m / 128 % 128) := by
      rw [pk_shrN (by omega) _ 7 (by decide)]
      exact pk_andN (by omega) 7 (by decide)
    have x3 : nI m >>> ((14 : Int32) &&& 31) = nI (m / 16384) := pk_shrN (by omega) _ 14 (by decide)
    have y1 : nI m - nI m / 128 * 128 = nI (m % 128) := pk_rem (d := 128) (by omega) (by omega) (by omega)
    have y0 : nI m / 128 = nI (m / 128) := pk_div (d := 128) (by omega) (by omega) (by omega)
    have y2 : nI m / 128 - nI m / 128 / 128 * 128 = nI (m / 128 % 128) := by
      rw [y0]
      exact pk_rem (d := 128) (by omega) (by omega) (by omega)
    have y3 : nI m / 16384 = nI (m / 16384) := pk_div (d := 16384) (by omega) (by omega) (by omega)
    obtain ⟨u1, v1, hR1, hX1, hY1⟩ := te_step J (m % 128) (by omega)
    have J1 := hR1
    obtain ⟨R1, C1, P1, T1, B1, ins1, wr1, ot1, wt1, SR1, SC1, SP1, AR1, AC1, AO1, AB1, K1, S1, ma1, mk1, se1, bg1, mq1, mn1, ce1, ad1, aq1, sh1, kp1, nu1, nq1, rfl, rfl, -⟩ := hR1
    obtain ⟨u2, v2, hR2, hX2, hY2⟩ := te_step J1 (m / 128 % 128) (by omega)
    have J2 := hR2
    obtain ⟨R2, C2, P2, T2, B2, ins2, wr2, ot2, wt2, SR2, SC2, SP2, AR2, AC2, AO2, AB2, K2, S2, ma2, mk2, se2, bg2, mq2, mn2, ce2, ad2, aq2, sh2, kp2, nu2, nq2, rfl, rfl, -⟩ := hR2
    obtain ⟨u3, v3, hR3, hX3, hY3⟩ := te_step J2 (m / 16384) (by omega)
    have J3 := hR3
    obtain ⟨R3, C3, P3, T3, B3, ins3, wr3, ot3, wt3, SR3, SC3, SP3, AR3, AC3, AO3, AB3, K3, S3, ma3, mk3, se3, bg3, mq3, mn3, ce3, ad3, aq3, sh3, kp3, nu3, nq3, rfl, rfl, -⟩ := hR3
    unfold wpX_feedThree
    refine br_f h0 (br_t h1 ?_)
    rw [x1, x2, x3]
    refine hX1 _ ?_
    refine hX2 _ ?_
    refine hX3 _ ?_
    refine br_f h0 (br_t h1 ⟨by decide, ?_⟩)
    rw [y1]
    refine hY1 _ ?_
    refine ⟨by decide, by decide, ?_⟩
    rw [y2]
    refine hY2 _ ?_
    refine ⟨by decide, ?_⟩
    rw [y3]
    refine hY3 _ ?_
    exact ⟨rfl, J3⟩
  · exact br_f h0 (br_f h1 (br_f h0 (br_f h1 ⟨rfl, J⟩)))
end
