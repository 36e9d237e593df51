/-! THE CONSTRUCTORS -/
theorem pF_ex {h : Hp} {a ci k : Nat} {fl : List Value} {v : Value} (e : h a = some (.inr (ci, fl))) (hk : k < fl.length) : ∃ h', (∀ (β : Type) (K : Hp → Option β), pF h a ci k v K = K h') ∧ h' a = some (.inr (ci, fl.set k v)) ∧ ∀ x, x ≠ a → h' x = h x := ⟨_, fun β K => pF_at e hk, va_up_self _ _ _, fun x hx => va_up_ne _ _ hx⟩
theorem nw_ex {h : Hp} {z : Nat} {x : xE} : ∃ h', (∀ (β : Type) (K : Hp → Option β), nw h z x K = K h') ∧ h' z = some x ∧ ∀ y, y ≠ z → h' y = h y := ⟨_, fun β K => rfl, va_up_self _ _ _, fun x hx => va_up_ne _ _ hx⟩
theorem most_n {n : Nat} : (2 : Int32) * nI n + 1 = nI (2 * n + 1) := by rw [show (2 : Int32) = nI 2 from rfl, pk_mul, show (1 : Int32) = nI 1 from rfl, nI_add]
theorem e_Rinit {h : Hp} {a : Nat} (hz : h a = some (.inr (2, [.int 0, .int 0, .int 0, .int 0]))) : ∃ h', FR_init h a = some h' ∧ h' a = some (.inr (2, [.int (-1), .int 0, .int 0, .int 0])) ∧ ∀ x, x ≠ a → h' x = h x := by
  obtain ⟨h1, e1, b1, c1⟩ := pF_ex (k := 0) (v := .int (-1)) hz (Nat.le_of_ble_eq_true rfl)
  have a1 : h1 a = some (.inr (2, [.int (-1), .int 0, .int 0, .int 0])) := b1
  obtain ⟨h2, e2, b2, c2⟩ := pF_ex (k := 1) (v := .int 0) a1 (Nat.le_of_ble_eq_true rfl)
  have a2 : h2 a = some (.inr (2, [.int (-1), .int 0, .int 0, .int 0])) := b2
  obtain ⟨h3, e3, b3, c3⟩ := pF_ex (k := 2) (v := .int 0) a2 (Nat.le_of_ble_eq_true rfl)
  have a3 : h3 a = some (.inr (2, [.int (-1), .int 0, .int 0, .int 0])) := b3
  obtain ⟨h4, e4, b4, c4⟩ := pF_ex (k := 3) (v := .int 0) a3 (Nat.le_of_ble_eq_true rfl)
  have a4 : h4 a = some (.inr (2, [.int (-1), .int 0, .int 0, .int 0])) := b4
  refine ⟨h4, ?_, a4, fun x hx => by rw [c4 x hx, c3 x hx, c2 x hx, c1 x hx]⟩
  unfold FR_init
  rw [e1, e2, e3, e4]
theorem e_Cinit {h : Hp} {a m : Nat} (hm : m ≤ 200) (hz : h a = some (.inr (0, [.null, .int 0]))) : ∃ h', FC_init 1 200 h (a + 1) a (nI m) = some (h', a + 2) ∧ oc a m (fun _ => 0) 0 h' = h' ∧ ∀ x, x < a ∨ a + 1 < x → h' x = h x := by
  obtain ⟨h1, e1, b1, c1⟩ := pF_ex (k := 1) (v := .int 0) hz (Nat.le_of_ble_eq_true rfl)
  have a1 : h1 a = some (.inr (0, [.null, .int 0])) := b1
  obtain ⟨h2, e2, w2, c2⟩ := nw_ex (h := h1) (z := a + 1) (x := .inl (0, m, .inl (fun _ => 0)))
  have a2 : h2 a = some (.inr (0, [.null, .int 0])) := (c2 _ (by omega)).trans a1
  obtain ⟨h3, e3, b3, c3⟩ := pF_ex (k := 0) (v := .ref (a + 1)) a2 (Nat.le_of_ble_eq_true rfl)
  have a3 : h3 a = some (.inr (0, [.ref (a + 1), .int 0])) := b3
  refine ⟨h3, ?_, ?_, fun x hx => by rw [c3 x (by omega), c2 x (by omega), c1 x (by omega)]⟩
  · unfold FC_init
    rw [nI_toInt (n := m) (by omega), nI_clamp (n := m) (by omega)]
    rw [e1, gd_t (by omega), e2, e3, gd_t (by omega)]
  · funext x
    by_cases e0 : x = a
    · subst e0; rw [oc_0, a3]
    · by_cases e1 : x = a + 1
      · subst e1; rw [oc_1, c3 _ (by omega), w2]
      · exact oc_out (by omega)
theorem e_Pinit {h : Hp} {a m : Nat} (hm : m ≤ 100) (hz : h a = some (.inr (1, [.null, .null, .null, .int 0]))) : ∃ h', FP_init 3 300 h (a + 1) a (nI m) = some (h', a + 4) ∧ op a m (fun _ => 0) (fun _ => 0) (fun _ => 0) 0 h' = h' ∧ ∀ x, x < a ∨ a + 3 < x → h' x = h x := by
  obtain ⟨h1, e1, b1, c1⟩ := pF_ex (k := 3) (v := .int 0) hz (Nat.le_of_ble_eq_true rfl)
  have a1 : h1 a = some (.inr (1, [.null, .null, .null, .int 0])) := b1
  obtain ⟨h2, e2, w2, c2⟩ := nw_ex (h := h1) (z := a + 1) (x := .inl (0, m, .inl (fun _ => 0)))
  have a2 : h2 a = some (.inr (1, [.null, .null, .null, .int 0])) := (c2 _ (by omega)).trans a1
  obtain ⟨h3, e3, b3, c3⟩ := pF_ex (k := 0) (v := .ref (a + 1)) a2 (Nat.le_of_ble_eq_true rfl)
  have a3 : h3 a = some (.inr (1, [.ref (a + 1), .null, .null, .int 0])) := b3
  obtain ⟨h4, e4, w4, c4⟩ := nw_ex (h := h3) (z := a + 1 + 1) (x := .inl (0, m, .inl (fun _ => 0)))
  have a4 : h4 a = some (.inr (1, [.ref (a + 1), .null, .null, .int 0])) := (c4 _ (by omega)).trans a3
  obtain ⟨h5, e5, b5, c5⟩ := pF_ex (k := 1) (v := .ref (a + 1 + 1)) a4 (Nat.le_of_ble_eq_true rfl)
  have a5 : h5 a = some (.inr (1, [.ref (a + 1), .ref (a + 1 + 1), .null, .int 0])) := b5
  obtain ⟨h6, e6, w6, c6⟩ := nw_ex (h := h5) (z := a + 1 + 1 + 1) (x := .inl (0, m, .inl (fun _ => 0)))
  have a6 : h6 a = some (.inr (1, [.ref (a + 1), .ref (a + 1 + 1), .null, .int 0])) := (c6 _ (by omega)).trans a5
  obtain ⟨h7, e7, b7, c7⟩ := pF_ex (k := 2) (v := .ref (a + 1 + 1 + 1)) a6 (Nat.le_of_ble_eq_true rfl)
  have a7 : h7 a = some (.inr (1, [.ref (a + 1), .ref (a + 1 + 1), .ref (a + 1 + 1 + 1), .int 0])) := b7
  refine ⟨h7, ?_, ?_, fun x hx => by rw [c7 x (by omega), c6 x (by omega), c5 x (by omega), c4 x (by omega), c3 x (by omega), c2 x (by omega), c1 x (by omega)]⟩
  · unfold FP_init
    rw [nI_toInt (n := m) (by omega), nI_clamp (n := m) (by omega)]
    rw [e1, gd_t (by omega), e2, e3, gd_t (by omega), e4, e5, gd_t (by omega), e6, e7, gd_t (by omega)]
  · refine op_same a7 ?_ ?_ ?_
    · rw [c7 _ (by omega), c6 _ (by omega), c5 _ (by omega), c4 _ (by omega), c3 _ (by omega)]; exact w2
    · rw [show a + 2 = a + 1 + 1 from rfl, c7 _ (by omega), c6 _ (by omega), c5 _ (by omega)]; exact w4
    · rw [show a + 3 = a + 1 + 1 + 1 from rfl, c7 _ (by omega)]; exact w6
/-- a tree as it is made -/
def TI (n P a : Nat) (h : Hp) : Prop := ∃ (es : Int32) (cn sg pa fs sn lf : Nat → Int32), ov n P a 0 (nI 1) es 0 cn sg pa fs sn lf h = h ∧ CT n 0 c0 g0 (fun _ => 0) es cn sg pa fs sn lf
theorem TI.ag {n P a : Nat} {h h' : Hp} (t : TI n P a h) (hh : ∀ x, a ≤ x → x ≤ a + 6 → h' x = h x) : TI n P a h' := by
  obtain ⟨es, cn, sg, pa, fs, sn, lf, t1, t2⟩ := t
  exact ⟨es, cn, sg, pa, fs, sn, lf, ov_ag t1 hh, t2⟩
theorem e_Tinit {h : Hp} {a n P : Nat} (hn : n ≤ 64) (hz : h a = some (.inr (3, [.int 0, .null, .null, .null, .null, .null, .null, .null, .int 0, .int 0, .int 0, .int 0]))) : ∃ h', FT_init 6 800 h (a + 1) a (nI n) P = some (h', a + 7) ∧ TI n P a h' ∧ ∀ x, x < a ∨ a + 6 < x → h' x = h x := by
  obtain ⟨h1, e1, b1, c1⟩ := pF_ex (k := 8) (v := .int 0) hz (Nat.le_of_ble_eq_true rfl)
  have a1 : h1 a = some (.inr (3, [.int 0, .null, .null, .null, .null, .null, .null, .null, .int 0, .int 0, .int 0, .int 0])) := b1
  obtain ⟨h2, e2, b2, c2⟩ := pF_ex (k := 9) (v := .int 0) a1 (Nat.le_of_ble_eq_true rfl)
  have a2 : h2 a = some (.inr (3, [.int 0, .null, .null, .null, .null, .null, .null, .null, .int 0, .int 0, .int 0, .int 0])) := b2
  obtain ⟨h3, e3, b3, c3⟩ := pF_ex (k := 10) (v := .int (-1)) a2 (Nat.le_of_ble_eq_true rfl)
  have a3 : h3 a = some (.inr (3, [.int 0, .null, .null, .null, .null, .null, .null, .null, .int 0, .int 0, .int (-1), .int 0])) := b3
  obtain ⟨h4, e4, b4, c4⟩ := pF_ex (k := 11) (v := .int 0) a3 (Nat.le_of_ble_eq_true rfl)
  have a4 : h4 a = some (.inr (3, [.int 0, .null, .null, .null, .null, .null, .null, .null, .int 0, .int 0, .int (-1), .int 0])) := b4
  obtain ⟨h5, e5, b5, c5⟩ := pF_ex (k := 0) (v := .int (nI n)) a4 (Nat.le_of_ble_eq_true rfl)
  have a5 : h5 a = some (.inr (3, [.int (nI n), .null, .null, .null, .null, .null, .null, .null, .int 0, .int 0, .int (-1), .int 0])) := b5
  obtain ⟨h6, e6, b6, c6⟩ := pF_ex (k := 1) (v := .ref P) a5 (Nat.le_of_ble_eq_true rfl)
  have a6 : h6 a = some (.inr (3, [.int (nI n), .ref P, .null, .null, .null, .null, .null, .null, .int 0, .int 0, .int (-1), .int 0])) := b6
  obtain ⟨h7, e7, w7, c7⟩ := nw_ex (h := h6) (z := a + 1) (x := .inl (0, 2 * n + 1, .inl (fun _ => 0)))
  have a7 : h7 a = some (.inr (3, [.int (nI n), .ref P, .null, .null, .null, .null, .null, .null, .int 0, .int 0, .int (-1), .int 0])) := (c7 _ (by omega)).trans a6
  obtain ⟨h8, e8, b8, c8⟩ := pF_ex (k := 2) (v := .ref (a + 1)) a7 (Nat.le_of_ble_eq_true rfl)
  have a8 : h8 a = some (.inr (3, [.int (nI n), .ref P, .ref (a + 1), .null, .null, .null, .null, .null, .int 0, .int 0, .int (-1), .int 0])) := b8
  obtain ⟨h9, e9, w9, c9⟩ := nw_ex (h := h8) (z := a + 1 + 1) (x := .inl (0, 2 * n + 1, .inl (fun _ => 0)))
  have a9 : h9 a = some (.inr (3, [.int (nI n), .ref P, .ref (a + 1), .null, .null, .null, .null, .null, .int 0, .int 0, .int (-1), .int 0])) := (c9 _ (by omega)).trans a8
  obtain ⟨h10, e10, b10, c10⟩ := pF_ex (k := 3) (v := .ref (a + 1 + 1)) a9 (Nat.le_of_ble_eq_true rfl)
  have a10 : h10 a = some (.inr (3, [.int (nI n), .ref P, .ref (a + 1), .ref (a + 1 + 1), .null, .null, .null, .null, .int 0, .int 0, .int (-1), .int 0])) := b10
  obtain ⟨h11, e11, w11, c11⟩ := nw_ex (h := h10) (z := a + 1 + 1 + 1) (x := .inl (0, 2 * n + 1, .inl (fun _ => 0)))
  have a11 : h11 a = some (.inr (3, [.int (nI n), .ref P, .ref (a + 1), .ref (a + 1 + 1), .null, .null, .null, .null, .int 0, .int 0, .int (-1), .int 0])) := (c11 _ (by omega)).trans a10
  obtain ⟨h12, e12, b12, c12⟩ := pF_ex (k := 4) (v := .ref (a + 1 + 1 + 1)) a11 (Nat.le_of_ble_eq_true rfl)
  have a12 : h12 a = some (.inr (3, [.int (nI n), .ref P, .ref (a + 1), .ref (a + 1 + 1), .ref (a + 1 + 1 + 1), .null, .null, .null, .int 0, .int 0, .int (-1), .int 0])) := b12
  obtain ⟨h13, e13, w13, c13⟩ := nw_ex (h := h12) (z := a + 1 + 1 + 1 + 1) (x := .inl (0, 2 * n + 1, .inl (fun _ => 0)))
  have a13 : h13 a = some (.inr (3, [.int (nI n), .ref P, .ref (a + 1), .ref (a + 1 + 1), .ref (a + 1 + 1 + 1), .null, .null, .null, .int 0, .int 0, .int (-1), .int 0])) := (c13 _ (by omega)).trans a12
  obtain ⟨h14, e14, b14, c14⟩ := pF_ex (k := 5) (v := .ref (a + 1 + 1 + 1 + 1)) a13 (Nat.le_of_ble_eq_true rfl)
  have a14 : h14 a = some (.inr (3, [.int (nI n), .ref P, .ref (a + 1), .ref (a + 1 + 1), .ref (a + 1 + 1 + 1), .ref (a + 1 + 1 + 1 + 1), .null, .null, .int 0, .int 0, .int (-1), .int 0])) := b14
  obtain ⟨h15, e15, w15, c15⟩ := nw_ex (h := h14) (z := a + 1 + 1 + 1 + 1 + 1) (x := .inl (0, 2 * n + 1, .inl (fun _ => 0)))
  have a15 : h15 a = some (.inr (3, [.int (nI n), .ref P, .ref (a + 1), .ref (a + 1 + 1), .ref (a + 1 + 1 + 1), .ref (a + 1 + 1 + 1 + 1), .null, .null, .int 0, .int 0, .int (-1), .int 0])) := (c15 _ (by omega)).trans a14
  obtain ⟨h16, e16, b16, c16⟩ := pF_ex (k := 6) (v := .ref (a + 1 + 1 + 1 + 1 + 1)) a15 (Nat.le_of_ble_eq_true rfl)
  have a16 : h16 a = some (.inr (3, [.int (nI n), .ref P, .ref (a + 1), .ref (a + 1 + 1), .ref (a + 1 + 1 + 1), .ref (a + 1 + 1 + 1 + 1), .ref (a + 1 + 1 + 1 + 1 + 1), .null, .int 0, .int 0, .int (-1), .int 0])) := b16
  obtain ⟨h17, e17, w17, c17⟩ := nw_ex (h := h16) (z := a + 1 + 1 + 1 + 1 + 1 + 1) (x := .inl (0, n, .inl (fun _ => 0)))
  have a17 : h17 a = some (.inr (3, [.int (nI n), .ref P, .ref (a + 1), .ref (a + 1 + 1), .ref (a + 1 + 1 + 1), .ref (a + 1 + 1 + 1 + 1), .ref (a + 1 + 1 + 1 + 1 + 1), .null, .int 0, .int 0, .int (-1), .int 0])) := (c17 _ (by omega)).trans a16
  obtain ⟨h18, e18, b18, c18⟩ := pF_ex (k := 7) (v := .ref (a + 1 + 1 + 1 + 1 + 1 + 1)) a17 (Nat.le_of_ble_eq_true rfl)
  have a18 : h18 a = some (.inr (3, [.int (nI n), .ref P, .ref (a + 1), .ref (a + 1 + 1), .ref (a + 1 + 1 + 1), .ref (a + 1 + 1 + 1 + 1), .ref (a + 1 + 1 + 1 + 1 + 1), .ref (a + 1 + 1 + 1 + 1 + 1 + 1), .int 0, .int 0, .int (-1), .int 0])) := b18
  have hov : ov n P a 0 0 (-1) 0 (fun _ => 0) (fun _ => 0) (fun _ => 0) (fun _ => 0) (fun _ => 0) (fun _ => 0) h18 = h18 := by
    refine ov_same a18 ?_ ?_ ?_ ?_ ?_ ?_
    · rw [show a + 1 = a + 1 from rfl, c18 _ (by omega), c17 _ (by omega), c16 _ (by omega), c15 _ (by omega), c14 _ (by omega), c13 _ (by omega), c12 _ (by omega), c11 _ (by omega), c10 _ (by omega), c9 _ (by omega), c8 _ (by omega)]; exact w7
    · rw [show a + 2 = a + 1 + 1 from rfl, c18 _ (by omega), c17 _ (by omega), c16 _ (by omega), c15 _ (by omega), c14 _ (by omega), c13 _ (by omega), c12 _ (by omega), c11 _ (by omega), c10 _ (by omega)]; exact w9
    · rw [show a + 3 = a + 1 + 1 + 1 from rfl, c18 _ (by omega), c17 _ (by omega), c16 _ (by omega), c15 _ (by omega), c14 _ (by omega), c13 _ (by omega), c12 _ (by omega)]; exact w11
    · rw [show a + 4 = a + 1 + 1 + 1 + 1 from rfl, c18 _ (by omega), c17 _ (by omega), c16 _ (by omega), c15 _ (by omega), c14 _ (by omega)]; exact w13
    · rw [show a + 5 = a + 1 + 1 + 1 + 1 + 1 from rfl, c18 _ (by omega), c17 _ (by omega), c16 _ (by omega)]; exact w15
    · rw [show a + 6 = a + 1 + 1 + 1 + 1 + 1 + 1 from rfl, c18 _ (by omega)]; exact w17
  obtain ⟨es', cn', sg', pa', fs', sn', lf', q1, q2⟩ := e_beginCounted (n := n) (P := P) (a := a) (h := h18) (fm := 0) (sz := 0) (es := (-1)) (hv := 0) (cn := fun _ => 0) (sg := fun _ => 0) (pa := fun _ => 0) (fs := fun _ => 0) (sn := fun _ => 0) (lf := fun _ => 0) hn
  rw [hov] at q1
  refine ⟨ov n P a 0 (nI 1) es' 0 cn' sg' pa' fs' sn' lf' h18, ?_, ⟨es', cn', sg', pa', fs', sn', lf', ov_idem, q2⟩, fun x hx => by rw [ov_out hx, c18 x (by omega), c17 x (by omega), c16 x (by omega), c15 x (by omega), c14 x (by omega), c13 x (by omega), c12 x (by omega), c11 x (by omega), c10 x (by omega), c9 x (by omega), c8 x (by omega), c7 x (by omega), c6 x (by omega), c5 x (by omega), c4 x (by omega), c3 x (by omega), c2 x (by omega), c1 x (by omega)]⟩
  unfold FT_init
  rw [e1, e2, e3, e4, e5, e6, gd_t (by omega), show FA_mostNodes h6 (nI n) = some (2 * nI n + 1) from rfl, Option.bind_some, most_n]
  rw [nI_toInt (n := 2 * n + 1) (by omega), nI_clamp (n := 2 * n + 1) (by omega), nI_toInt (n := n) (by omega), nI_clamp (n := n) (by omega)]
  rw [gd_t (by omega), e7, e8, gd_t (by omega), e9, e10, gd_t (by omega), e11, e12, gd_t (by omega), e13, e14, gd_t (by omega), e15, e16, gd_t (by omega), e17, e18, gd_t (by omega), gd_t (isO_at a18), q1, Option.bind_some, gd_t (by omega)]
