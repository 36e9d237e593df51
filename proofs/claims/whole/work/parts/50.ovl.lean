/-! PURE LEVEL: overlays. 'ov': the seven cells of a tree at a over the heap h; 'op': the four cells of the pieces; 'oc': the two cells of a code; 'og': the cell of a reading. -/
def ov (n P a : Nat) (fm sz es hv : Int32) (cn sg pa fs sn lf : Nat → Int32) (h : Hp) : Hp := fun q =>
  if q = a then some (.inr (3, [.int (nI n), .ref P, .ref (a + 1), .ref (a + 2), .ref (a + 3), .ref (a + 4), .ref (a + 5), .ref (a + 6), .int fm, .int sz, .int es, .int hv]))
  else if q = a + 1 then some (.inl (0, 2 * n + 1, .inl cn)) else if q = a + 2 then some (.inl (0, 2 * n + 1, .inl sg)) else if q = a + 3 then some (.inl (0, 2 * n + 1, .inl pa))
  else if q = a + 4 then some (.inl (0, 2 * n + 1, .inl fs)) else if q = a + 5 then some (.inl (0, 2 * n + 1, .inl sn)) else if q = a + 6 then some (.inl (0, n, .inl lf)) else h q
def op (P : Nat) (m : Nat) (pc ps pf : Nat → Int32) (pz : Int32) (h : Hp) : Hp := fun q =>
  if q = P then some (.inr (1, [.ref (P + 1), .ref (P + 2), .ref (P + 3), .int pz]))
  else if q = P + 1 then some (.inl (0, m, .inl pc)) else if q = P + 2 then some (.inl (0, m, .inl ps)) else if q = P + 3 then some (.inl (0, m, .inl pf)) else h q
def oc (P m : Nat) (rw : Nat → Int32) (ln : Int32) (h : Hp) : Hp := fun q =>
  if q = P then some (.inr (0, [.ref (P + 1), .int ln])) else if q = P + 1 then some (.inl (0, m, .inl rw)) else h q
def og (P : Nat) (tr nd nu nb : Int32) (h : Hp) : Hp := fun q =>
  if q = P then some (.inr (2, [.int tr, .int nd, .int nu, .int nb])) else h q
theorem inN {j m : Nat} (h : j < m) (hm : m < 2 ^ 31) : 0 ≤ (nI j).toInt ∧ (nI j).toInt < m := by
  rw [nI_toInt (by omega)]; omega
theorem clN {j m : Nat} (h : j < m) (hm : m < 2 ^ 31) : (nI j).toNatClampNeg = j := nI_clamp (by omega)
/-- reading and writing a row of ints whose cell is known -/
theorem ldI_at {β : Type} {h : Hp} {a ti m j : Nat} {f : Nat → Int32} {K : Int32 → Option β} (e : h a = some (.inl (ti, m, .inl f))) (hj : j < m) (hm : m < 2 ^ 31) : ldI h a ti (nI j) K = K (f j) := by
  simp only [ldI, gA, e, if_true]
  rw [if_pos (inN hj hm), clN hj hm]
theorem stI_at {β : Type} {h : Hp} {a ti m j : Nat} {f : Nat → Int32} {v : Int32} {K : Hp → Option β} (e : h a = some (.inl (ti, m, .inl f))) (hj : j < m) (hm : m < 2 ^ 31) : stI h a ti (nI j) v K = K (va_up h a (some (.inl (ti, m, .inl (upd f j v))))) := by
  simp only [stI, gA, e, if_true]
  rw [if_pos (inN hj hm), clN hj hm]
theorem gI_at {β : Type} {h : Hp} {a ci k : Nat} {fl : List Value} {x : Int32} {K : Int32 → Option β} (e : h a = some (.inr (ci, fl))) (hk : fl[k]? = some (.int x)) : gI h a ci k K = K x := by
  simp only [gI, gF, e, if_true, hk]
theorem gR_at {β : Type} {h : Hp} {a ci k : Nat} {fl : List Value} {x : Nat} {K : Nat → Option β} (e : h a = some (.inr (ci, fl))) (hk : fl[k]? = some (.ref x)) : gR h a ci k K = K x := by
  simp only [gR, gF, e, if_true, hk]
theorem pF_at {β : Type} {h : Hp} {a ci k : Nat} {fl : List Value} {v : Value} {K : Hp → Option β} (e : h a = some (.inr (ci, fl))) (hk : k < fl.length) : pF h a ci k v K = K (va_up h a (some (.inr (ci, fl.set k v)))) := by
  simp only [pF, e]
  rw [if_pos ⟨trivial, hk⟩]
theorem isO_at {h : Hp} {a ci : Nat} {fl : List Value} (e : h a = some (.inr (ci, fl))) : isO h a ci = true := by
  simp [isO, e]
theorem alen_at {β : Type} {h : Hp} {a ti : Nat} {x : vp_A} {K : Int32 → Option β} (e : h a = some (.inl (ti, x))) : alen h a ti K = K (nI x.1) := by
  simp only [alen, e, if_true]
  rfl
section OV
variable {β : Type} {n P a : Nat} {fm sz es hv : Int32} {cn sg pa fs sn lf : Nat → Int32} {h : Hp}
theorem ov_0 : ov n P a fm sz es hv cn sg pa fs sn lf h a = some (.inr (3, [.int (nI n), .ref P, .ref (a + 1), .ref (a + 2), .ref (a + 3), .ref (a + 4), .ref (a + 5), .ref (a + 6), .int fm, .int sz, .int es, .int hv])) := if_pos rfl
theorem ov_cn : ov n P a fm sz es hv cn sg pa fs sn lf h (a + 1) = some (.inl (0, 2 * n + 1, .inl cn)) := by simp [ov]
theorem ov_sg : ov n P a fm sz es hv cn sg pa fs sn lf h (a + 2) = some (.inl (0, 2 * n + 1, .inl sg)) := by simp [ov]
theorem ov_pa : ov n P a fm sz es hv cn sg pa fs sn lf h (a + 3) = some (.inl (0, 2 * n + 1, .inl pa)) := by simp [ov]
theorem ov_fs : ov n P a fm sz es hv cn sg pa fs sn lf h (a + 4) = some (.inl (0, 2 * n + 1, .inl fs)) := by simp [ov]
theorem ov_sn : ov n P a fm sz es hv cn sg pa fs sn lf h (a + 5) = some (.inl (0, 2 * n + 1, .inl sn)) := by simp [ov]
theorem ov_lf : ov n P a fm sz es hv cn sg pa fs sn lf h (a + 6) = some (.inl (0, n, .inl lf)) := by simp [ov]
theorem ov_out {q : Nat} (hq : q < a ∨ a + 6 < q) : ov n P a fm sz es hv cn sg pa fs sn lf h q = h q := by
  unfold ov
  rw [if_neg (by omega)]
  rw [if_neg (by omega)]
  rw [if_neg (by omega)]
  rw [if_neg (by omega)]
  rw [if_neg (by omega)]
  rw [if_neg (by omega)]
  rw [if_neg (by omega)]
theorem ov_same (h0 : h a = some (.inr (3, [.int (nI n), .ref P, .ref (a + 1), .ref (a + 2), .ref (a + 3), .ref (a + 4), .ref (a + 5), .ref (a + 6), .int fm, .int sz, .int es, .int hv]))) (h1 : h (a + 1) = some (.inl (0, 2 * n + 1, .inl cn))) (h2 : h (a + 2) = some (.inl (0, 2 * n + 1, .inl sg))) (h3 : h (a + 3) = some (.inl (0, 2 * n + 1, .inl pa))) (h4 : h (a + 4) = some (.inl (0, 2 * n + 1, .inl fs))) (h5 : h (a + 5) = some (.inl (0, 2 * n + 1, .inl sn))) (h6 : h (a + 6) = some (.inl (0, n, .inl lf))) : ov n P a fm sz es hv cn sg pa fs sn lf h = h := by
  funext q
  unfold ov
  split
  · rename_i e; rw [e, h0]
  split
  · rename_i e; rw [e, h1]
  split
  · rename_i e; rw [e, h2]
  split
  · rename_i e; rw [e, h3]
  split
  · rename_i e; rw [e, h4]
  split
  · rename_i e; rw [e, h5]
  split
  · rename_i e; rw [e, h6]
  rfl
theorem up_fm {v : Int32} : va_up (ov n P a fm sz es hv cn sg pa fs sn lf h) a (some (.inr (3, [.int (nI n), .ref P, .ref (a + 1), .ref (a + 2), .ref (a + 3), .ref (a + 4), .ref (a + 5), .ref (a + 6), .int fm, .int sz, .int es, .int hv].set 8 (.int v)))) = ov n P a v sz es hv cn sg pa fs sn lf h := by
  funext q
  by_cases e : q = a
  · subst e; rw [va_up_self, ov_0]; rfl
  · rw [va_up_ne _ _ e]; simp [ov, e]
theorem up_sz {v : Int32} : va_up (ov n P a fm sz es hv cn sg pa fs sn lf h) a (some (.inr (3, [.int (nI n), .ref P, .ref (a + 1), .ref (a + 2), .ref (a + 3), .ref (a + 4), .ref (a + 5), .ref (a + 6), .int fm, .int sz, .int es, .int hv].set 9 (.int v)))) = ov n P a fm v es hv cn sg pa fs sn lf h := by
  funext q
  by_cases e : q = a
  · subst e; rw [va_up_self, ov_0]; rfl
  · rw [va_up_ne _ _ e]; simp [ov, e]
theorem up_es {v : Int32} : va_up (ov n P a fm sz es hv cn sg pa fs sn lf h) a (some (.inr (3, [.int (nI n), .ref P, .ref (a + 1), .ref (a + 2), .ref (a + 3), .ref (a + 4), .ref (a + 5), .ref (a + 6), .int fm, .int sz, .int es, .int hv].set 10 (.int v)))) = ov n P a fm sz v hv cn sg pa fs sn lf h := by
  funext q
  by_cases e : q = a
  · subst e; rw [va_up_self, ov_0]; rfl
  · rw [va_up_ne _ _ e]; simp [ov, e]
theorem up_hv {v : Int32} : va_up (ov n P a fm sz es hv cn sg pa fs sn lf h) a (some (.inr (3, [.int (nI n), .ref P, .ref (a + 1), .ref (a + 2), .ref (a + 3), .ref (a + 4), .ref (a + 5), .ref (a + 6), .int fm, .int sz, .int es, .int hv].set 11 (.int v)))) = ov n P a fm sz es v cn sg pa fs sn lf h := by
  funext q
  by_cases e : q = a
  · subst e; rw [va_up_self, ov_0]; rfl
  · rw [va_up_ne _ _ e]; simp [ov, e]
theorem up_cn {f : Nat → Int32} : va_up (ov n P a fm sz es hv cn sg pa fs sn lf h) (a + 1) (some (.inl (0, 2 * n + 1, .inl f))) = ov n P a fm sz es hv f sg pa fs sn lf h := by
  funext q
  by_cases e : q = a + 1
  · subst e; rw [va_up_self, ov_cn]
  · rw [va_up_ne _ _ e]; simp [ov, e]
theorem up_sg {f : Nat → Int32} : va_up (ov n P a fm sz es hv cn sg pa fs sn lf h) (a + 2) (some (.inl (0, 2 * n + 1, .inl f))) = ov n P a fm sz es hv cn f pa fs sn lf h := by
  funext q
  by_cases e : q = a + 2
  · subst e; rw [va_up_self, ov_sg]
  · rw [va_up_ne _ _ e]; simp [ov, e]
theorem up_pa {f : Nat → Int32} : va_up (ov n P a fm sz es hv cn sg pa fs sn lf h) (a + 3) (some (.inl (0, 2 * n + 1, .inl f))) = ov n P a fm sz es hv cn sg f fs sn lf h := by
  funext q
  by_cases e : q = a + 3
  · subst e; rw [va_up_self, ov_pa]
  · rw [va_up_ne _ _ e]; simp [ov, e]
theorem up_fs {f : Nat → Int32} : va_up (ov n P a fm sz es hv cn sg pa fs sn lf h) (a + 4) (some (.inl (0, 2 * n + 1, .inl f))) = ov n P a fm sz es hv cn sg pa f sn lf h := by
  funext q
  by_cases e : q = a + 4
  · subst e; rw [va_up_self, ov_fs]
  · rw [va_up_ne _ _ e]; simp [ov, e]
theorem up_sn {f : Nat → Int32} : va_up (ov n P a fm sz es hv cn sg pa fs sn lf h) (a + 5) (some (.inl (0, 2 * n + 1, .inl f))) = ov n P a fm sz es hv cn sg pa fs f lf h := by
  funext q
  by_cases e : q = a + 5
  · subst e; rw [va_up_self, ov_sn]
  · rw [va_up_ne _ _ e]; simp [ov, e]
theorem up_lf {f : Nat → Int32} : va_up (ov n P a fm sz es hv cn sg pa fs sn lf h) (a + 6) (some (.inl (0, n, .inl f))) = ov n P a fm sz es hv cn sg pa fs sn f h := by
  funext q
  by_cases e : q = a + 6
  · subst e; rw [va_up_self, ov_lf]
  · rw [va_up_ne _ _ e]; simp [ov, e]
theorem up_out {q : Nat} {x : Option xE} (hq : q < a ∨ a + 6 < q) : va_up (ov n P a fm sz es hv cn sg pa fs sn lf h) q x = ov n P a fm sz es hv cn sg pa fs sn lf (va_up h q x) := by
  funext r
  by_cases e : r = q
  · subst e; rw [va_up_self, ov_out hq, va_up_self]
  · rw [va_up_ne _ _ e]; unfold ov; rw [va_up_ne _ _ e]
theorem r_cn {K : Nat → Option β} : gR (ov n P a fm sz es hv cn sg pa fs sn lf h) a 3 2 K = K (a + 1) := gR_at ov_0 rfl
theorem ld_cn {j : Nat} {K : Int32 → Option β} (hj : j < 2 * n + 1) (hn : n ≤ 64) : ldI (ov n P a fm sz es hv cn sg pa fs sn lf h) (a + 1) 0 (nI j) K = K (cn j) := ldI_at ov_cn hj (by omega)
theorem st_cn {j : Nat} {v : Int32} {K : Hp → Option β} (hj : j < 2 * n + 1) (hn : n ≤ 64) : stI (ov n P a fm sz es hv cn sg pa fs sn lf h) (a + 1) 0 (nI j) v K = K (ov n P a fm sz es hv (upd cn j v) sg pa fs sn lf h) := by rw [stI_at ov_cn hj (by omega), up_cn]
theorem al_cn {K : Int32 → Option β} : alen (ov n P a fm sz es hv cn sg pa fs sn lf h) (a + 1) 0 K = K (nI (2 * n + 1)) := alen_at ov_cn
theorem r_sg {K : Nat → Option β} : gR (ov n P a fm sz es hv cn sg pa fs sn lf h) a 3 3 K = K (a + 2) := gR_at ov_0 rfl
theorem ld_sg {j : Nat} {K : Int32 → Option β} (hj : j < 2 * n + 1) (hn : n ≤ 64) : ldI (ov n P a fm sz es hv cn sg pa fs sn lf h) (a + 2) 0 (nI j) K = K (sg j) := ldI_at ov_sg hj (by omega)
theorem st_sg {j : Nat} {v : Int32} {K : Hp → Option β} (hj : j < 2 * n + 1) (hn : n ≤ 64) : stI (ov n P a fm sz es hv cn sg pa fs sn lf h) (a + 2) 0 (nI j) v K = K (ov n P a fm sz es hv cn (upd sg j v) pa fs sn lf h) := by rw [stI_at ov_sg hj (by omega), up_sg]
theorem al_sg {K : Int32 → Option β} : alen (ov n P a fm sz es hv cn sg pa fs sn lf h) (a + 2) 0 K = K (nI (2 * n + 1)) := alen_at ov_sg
theorem r_pa {K : Nat → Option β} : gR (ov n P a fm sz es hv cn sg pa fs sn lf h) a 3 4 K = K (a + 3) := gR_at ov_0 rfl
theorem ld_pa {j : Nat} {K : Int32 → Option β} (hj : j < 2 * n + 1) (hn : n ≤ 64) : ldI (ov n P a fm sz es hv cn sg pa fs sn lf h) (a + 3) 0 (nI j) K = K (pa j) := ldI_at ov_pa hj (by omega)
theorem st_pa {j : Nat} {v : Int32} {K : Hp → Option β} (hj : j < 2 * n + 1) (hn : n ≤ 64) : stI (ov n P a fm sz es hv cn sg pa fs sn lf h) (a + 3) 0 (nI j) v K = K (ov n P a fm sz es hv cn sg (upd pa j v) fs sn lf h) := by rw [stI_at ov_pa hj (by omega), up_pa]
theorem al_pa {K : Int32 → Option β} : alen (ov n P a fm sz es hv cn sg pa fs sn lf h) (a + 3) 0 K = K (nI (2 * n + 1)) := alen_at ov_pa
theorem r_fs {K : Nat → Option β} : gR (ov n P a fm sz es hv cn sg pa fs sn lf h) a 3 5 K = K (a + 4) := gR_at ov_0 rfl
theorem ld_fs {j : Nat} {K : Int32 → Option β} (hj : j < 2 * n + 1) (hn : n ≤ 64) : ldI (ov n P a fm sz es hv cn sg pa fs sn lf h) (a + 4) 0 (nI j) K = K (fs j) := ldI_at ov_fs hj (by omega)
theorem st_fs {j : Nat} {v : Int32} {K : Hp → Option β} (hj : j < 2 * n + 1) (hn : n ≤ 64) : stI (ov n P a fm sz es hv cn sg pa fs sn lf h) (a + 4) 0 (nI j) v K = K (ov n P a fm sz es hv cn sg pa (upd fs j v) sn lf h) := by rw [stI_at ov_fs hj (by omega), up_fs]
theorem al_fs {K : Int32 → Option β} : alen (ov n P a fm sz es hv cn sg pa fs sn lf h) (a + 4) 0 K = K (nI (2 * n + 1)) := alen_at ov_fs
theorem r_sn {K : Nat → Option β} : gR (ov n P a fm sz es hv cn sg pa fs sn lf h) a 3 6 K = K (a + 5) := gR_at ov_0 rfl
theorem ld_sn {j : Nat} {K : Int32 → Option β} (hj : j < 2 * n + 1) (hn : n ≤ 64) : ldI (ov n P a fm sz es hv cn sg pa fs sn lf h) (a + 5) 0 (nI j) K = K (sn j) := ldI_at ov_sn hj (by omega)
theorem st_sn {j : Nat} {v : Int32} {K : Hp → Option β} (hj : j < 2 * n + 1) (hn : n ≤ 64) : stI (ov n P a fm sz es hv cn sg pa fs sn lf h) (a + 5) 0 (nI j) v K = K (ov n P a fm sz es hv cn sg pa fs (upd sn j v) lf h) := by rw [stI_at ov_sn hj (by omega), up_sn]
theorem al_sn {K : Int32 → Option β} : alen (ov n P a fm sz es hv cn sg pa fs sn lf h) (a + 5) 0 K = K (nI (2 * n + 1)) := alen_at ov_sn
theorem r_lf {K : Nat → Option β} : gR (ov n P a fm sz es hv cn sg pa fs sn lf h) a 3 7 K = K (a + 6) := gR_at ov_0 rfl
theorem ld_lf {j : Nat} {K : Int32 → Option β} (hj : j < n) (hn : n ≤ 64) : ldI (ov n P a fm sz es hv cn sg pa fs sn lf h) (a + 6) 0 (nI j) K = K (lf j) := ldI_at ov_lf hj (by omega)
theorem st_lf {j : Nat} {v : Int32} {K : Hp → Option β} (hj : j < n) (hn : n ≤ 64) : stI (ov n P a fm sz es hv cn sg pa fs sn lf h) (a + 6) 0 (nI j) v K = K (ov n P a fm sz es hv cn sg pa fs sn (upd lf j v) h) := by rw [stI_at ov_lf hj (by omega), up_lf]
theorem al_lf {K : Int32 → Option β} : alen (ov n P a fm sz es hv cn sg pa fs sn lf h) (a + 6) 0 K = K (nI (n)) := alen_at ov_lf
theorem r_P {K : Nat → Option β} : gR (ov n P a fm sz es hv cn sg pa fs sn lf h) a 3 1 K = K P := gR_at ov_0 rfl
theorem i_n {K : Int32 → Option β} : gI (ov n P a fm sz es hv cn sg pa fs sn lf h) a 3 0 K = K (nI n) := gI_at ov_0 rfl
theorem i_fm {K : Int32 → Option β} : gI (ov n P a fm sz es hv cn sg pa fs sn lf h) a 3 8 K = K fm := gI_at ov_0 rfl
theorem p_fm {v : Int32} {K : Hp → Option β} : pF (ov n P a fm sz es hv cn sg pa fs sn lf h) a 3 8 (.int v) K = K (ov n P a v sz es hv cn sg pa fs sn lf h) := by rw [pF_at ov_0 (Nat.le_of_ble_eq_true rfl), up_fm]
theorem i_sz {K : Int32 → Option β} : gI (ov n P a fm sz es hv cn sg pa fs sn lf h) a 3 9 K = K sz := gI_at ov_0 rfl
theorem p_sz {v : Int32} {K : Hp → Option β} : pF (ov n P a fm sz es hv cn sg pa fs sn lf h) a 3 9 (.int v) K = K (ov n P a fm v es hv cn sg pa fs sn lf h) := by rw [pF_at ov_0 (Nat.le_of_ble_eq_true rfl), up_sz]
theorem i_es {K : Int32 → Option β} : gI (ov n P a fm sz es hv cn sg pa fs sn lf h) a 3 10 K = K es := gI_at ov_0 rfl
theorem p_es {v : Int32} {K : Hp → Option β} : pF (ov n P a fm sz es hv cn sg pa fs sn lf h) a 3 10 (.int v) K = K (ov n P a fm sz v hv cn sg pa fs sn lf h) := by rw [pF_at ov_0 (Nat.le_of_ble_eq_true rfl), up_es]
theorem i_hv {K : Int32 → Option β} : gI (ov n P a fm sz es hv cn sg pa fs sn lf h) a 3 11 K = K hv := gI_at ov_0 rfl
theorem p_hv {v : Int32} {K : Hp → Option β} : pF (ov n P a fm sz es hv cn sg pa fs sn lf h) a 3 11 (.int v) K = K (ov n P a fm sz es v cn sg pa fs sn lf h) := by rw [pF_at ov_0 (Nat.le_of_ble_eq_true rfl), up_hv]
theorem o_ov : isO (ov n P a fm sz es hv cn sg pa fs sn lf h) a 3 = true := isO_at ov_0
theorem gI_out {q ci k : Nat} {K : Int32 → Option β} (hq : q < a ∨ a + 6 < q) : gI (ov n P a fm sz es hv cn sg pa fs sn lf h) q ci k K = gI h q ci k K := by simp only [gI, gF, ov_out hq]
theorem gR_out {q ci k : Nat} {K : Nat → Option β} (hq : q < a ∨ a + 6 < q) : gR (ov n P a fm sz es hv cn sg pa fs sn lf h) q ci k K = gR h q ci k K := by simp only [gR, gF, ov_out hq]
theorem ldI_out {q ti : Nat} {i : Int32} {K : Int32 → Option β} (hq : q < a ∨ a + 6 < q) : ldI (ov n P a fm sz es hv cn sg pa fs sn lf h) q ti i K = ldI h q ti i K := by simp only [ldI, gA, ov_out hq]
theorem alen_out {q ti : Nat} {K : Int32 → Option β} (hq : q < a ∨ a + 6 < q) : alen (ov n P a fm sz es hv cn sg pa fs sn lf h) q ti K = alen h q ti K := by simp only [alen, ov_out hq]
theorem isO_out {q ci : Nat} (hq : q < a ∨ a + 6 < q) : isO (ov n P a fm sz es hv cn sg pa fs sn lf h) q ci = isO h q ci := by simp only [isO, ov_out hq]
theorem pF_out {q ci k : Nat} {v : Value} {K : Hp → Option β} (hq : q < a ∨ a + 6 < q) : pF (ov n P a fm sz es hv cn sg pa fs sn lf h) q ci k v K = pF h q ci k v (fun h1 => K (ov n P a fm sz es hv cn sg pa fs sn lf h1)) := by simp only [pF, ov_out hq, up_out hq]
theorem stI_out {q ti : Nat} {i v : Int32} {K : Hp → Option β} (hq : q < a ∨ a + 6 < q) : stI (ov n P a fm sz es hv cn sg pa fs sn lf h) q ti i v K = stI h q ti i v (fun h1 => K (ov n P a fm sz es hv cn sg pa fs sn lf h1)) := by simp only [stI, gA, ov_out hq, up_out hq]
end OV
