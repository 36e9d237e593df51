/-! the model's HALVING -/
section MH
variable {M : Nat} {X : Nat → Int32} {h : Hp} {q m : Nat}
theorem m_ins_loop {c e : Nat → Nat} {K : Hp → Int32 → Option Hp} {t made : Nat} (ht : t < 2 ^ 31) (hmd : made < 129) : ∀ (k w : Nat) (A : Nat → Nat → Int32), k < 129 → k < w → (∀ x, x < k → A 12 x = nI (e x) ∧ e x < 129 ∧ A 13 (e x) = nI (c x) ∧ c x < 2 ^ 31) → A 13 made = nI t →
    ∃ A' : Nat → Nat → Int32, lpG (fun _ _ => none) w (LM_halve_195 M (nI made) K) (om M X A h) (nI k) = K (om M X A' h) (nI (inP c t k)) ∧ (∀ i, i ≠ 12 → A' i = A i) ∧ (∀ x, x < inP c t k → A' 12 x = A 12 x) ∧ (∀ x, inP c t k < x → x ≤ k → A' 12 x = A 12 (x - 1)) ∧ (∀ x, k < x → A' 12 x = A 12 x)
  | k, 0, A, _, hw, _, _ => absurd hw (by omega)
  | 0, w + 1, A, _, hw, hI, hA => by
    rw [lpG_s, LM_halve_195.eq_1, if_pos (by decide)]
    exact ⟨A, rfl, fun _ _ => rfl, fun _ _ => rfl, fun x h1 h2 => absurd h1 (by show ¬ 0 < x; omega), fun _ _ => rfl⟩
  | k + 1, w + 1, A, hk, hw, hI, hA => by
    obtain ⟨b1, b2, b3, b4⟩ := hI k (by omega)
    rw [lpG_s, LM_halve_195.eq_1, if_neg (nI_nle (by omega) (by omega)), nI_s1, mr_nc, mr_pi, ml_pi (by omega), b1, ml_nc b2, b3, mr_nc, ml_nc hmd, hA]
    by_cases e1 : c k < t
    · rw [if_neg (nI_ge e1 ht), mr_pi, mr_pi, ml_pi (by omega), b1, ms_pi hk, nI_m1]
      obtain ⟨A', r1, r2, r3, r4, r5⟩ := m_ins_loop (c := c) (e := e) (K := K) ht hmd k w (u2 A 12 (k + 1) (nI (e k))) (by omega) (by omega) (fun x hx => by
        rw [u2_at (by omega), u2_at (by omega)]; exact hI x (by omega)) (by rw [u2_at (by omega)]; exact hA)
      have ei : inP c t (k + 1) = inP c t k := by rw [inP, if_pos e1]
      have hle := inP_le c t k
      rw [ei]
      refine ⟨A', r1, fun i hi => (r2 i hi).trans (u2_n hi), fun x hx => (r3 x hx).trans (u2_at (by omega)), fun x h1 h2 => ?_, fun x hx => (r5 x (by omega)).trans (u2_at (by omega))⟩
      rcases Nat.lt_or_ge k x with z | z
      · have : x = k + 1 := by omega
        subst this
        rw [r5 _ z, u2_hit, show k + 1 - 1 = k from rfl, b1]
      · exact (r4 x h1 z).trans (u2_at (by omega))
    · rw [if_pos (nI_le (by omega) b4)]
      have ei : inP c t (k + 1) = k + 1 := by rw [inP, if_neg e1]
      rw [ei]
      exact ⟨A, rfl, fun _ _ => rfl, fun _ _ => rfl, fun x h1 h2 => absurd h1 (by omega), fun _ _ => rfl⟩
/-- the state of the model as it halves: e x is the node at the combined place x -/
def MH (A : Nat → Nat → Int32) (q m j : Nat) (c g w e : Nat → Nat) : Prop :=
  A 2 q = nI (2 * m + 1) ∧ (∀ x, x ≤ j → A 12 x = nI (e x)) ∧ (∀ x, 2 * j + 1 ≤ x → x ≤ 2 * m → A 5 (129 * q + x) = nI (e x)) ∧ (∀ x, Vs m j x → e x < 2 * m + 1 - j ∧ A 13 (e x) = nI (c x) ∧ A 14 (e x) = sI (g x)) ∧ (∀ x y, Vs m j x → Vs m j y → e x = e y → x = y) ∧ (∀ k, k < 2 * m + 1 - j → ∃ x, Vs m j x ∧ e x = k) ∧ ∀ i, j ≤ i → i < m → A 8 (64 * q + i) = nI (e (w i))
theorem m_halve_loop {n S0 : Nat} {S : Nat → Prop} {K : Hp → Option Hp} (hq : q < 12) (hm : m ≤ 64) (hS0 : S0 < 2 ^ 28) : ∀ (j W : Nat) (c g w e : Nat → Nat) (A : Nat → Nat → Int32), j ≤ m → j < W → HV n m S0 S j c g w → MH A q m j c g w e →
    ∃ (A' : Nat → Nat → Int32) (e' : Nat → Nat), lpG (fun _ _ _ _ => none) W (LM_halve_80 M (nI q) K) (om M X A h) (nI (j + 1)) (nI (2 * m + 1 - j)) (nI (2 * j)) = K (om M X A' h) ∧ MH A' q m 0 (hvL j c g w).1 (hvL j c g w).2.1 (hvL j c g w).2.2 e' ∧ fr q A A' ∧ fk q A A'
  | j, 0, c, g, w, e, A, _, hW, _, _ => absurd hW (by omega)
  | 0, W + 1, c, g, w, e, A, _, _, hV, hH => by
    rw [lpG_s, LM_halve_80.eq_1, if_pos (by decide)]
    exact ⟨A, e, rfl, hH, fr.refl, fk.refl⟩
  | j + 1, W + 1, c, g, w, e, A, hj, hW, hV, hH => by
    have V1 := HV_step (show j < m by omega) hV
    obtain ⟨v1, v2, v3, v4, v5, v6, v7, v8, v9, v10, v11⟩ := hV
    obtain ⟨m1, m2, m3, m4, m5, m6, m7⟩ := hH
    have hcb : ∀ k, k ≤ j + 1 → c k < 2 ^ 28 := fun k hk => by have := sm_ge (f := c) (j + 1 + 1) k (by omega); omega
    have vp : ∀ x, x ≤ j + 1 → Vs m (j + 1) x := fun x hx => Or.inl hx
    have a1 := inP_le c (c j + c (j + 1)) j
    have ej := m4 j (vp _ (by omega))
    have ej1 := m4 (j + 1) (vp _ (by omega))
    have hmd : 2 * m + 1 - (j + 1) = 2 * m - j := by omega
    rw [hmd] at m4 m6 ej ej1
    rw [hvL_s, hmd]
    obtain ⟨B, hB⟩ : ∃ B, B = u2 (u2 (u2 (u2 (u2 A 5 (129 * q + (2 * j + 2)) (nI (e (j + 1)))) 5 (129 * q + (2 * j + 1)) (nI (e j))) 8 (64 * q + j) (nI (2 * m - j))) 13 (2 * m - j) (nI (c j + c (j + 1)))) 14 (2 * m - j) (-1) := ⟨_, rfl⟩
    have B12 : ∀ x, B 12 x = A 12 x := fun x => by rw [hB, u2_at (by omega), u2_at (by omega), u2_at (by omega), u2_at (by omega), u2_at (by omega)]
    have B13 : ∀ x, x ≠ 2 * m - j → B 13 x = A 13 x := fun x hx => by rw [hB, u2_at (by omega), u2_at (by omega), u2_at (by omega), u2_at (by omega), u2_at (by omega)]
    have B13h : B 13 (2 * m - j) = nI (c j + c (j + 1)) := by rw [hB, u2_at (by omega), u2_hit]
    have B14 : ∀ x, x ≠ 2 * m - j → B 14 x = A 14 x := fun x hx => by rw [hB, u2_at (by omega), u2_at (by omega), u2_at (by omega), u2_at (by omega), u2_at (by omega)]
    have B14h : B 14 (2 * m - j) = (-1) := by rw [hB, u2_hit]
    have B8 : ∀ x, x ≠ 64 * q + j → B 8 x = A 8 x := fun x hx => by rw [hB, u2_at (by omega), u2_at (by omega), u2_at (by omega), u2_at (by omega), u2_at (by omega)]
    have B8h : B 8 (64 * q + j) = nI (2 * m - j) := by rw [hB, u2_at (by omega), u2_at (by omega), u2_hit]
    have B5 : ∀ x, x ≠ 129 * q + (2 * j + 1) → x ≠ 129 * q + (2 * j + 2) → B 5 x = A 5 x := fun x hx hx2 => by rw [hB, u2_at (by omega), u2_at (by omega), u2_at (by omega), u2_at (by omega), u2_at (by omega)]
    have B5a : B 5 (129 * q + (2 * j + 1)) = nI (e j) := by rw [hB, u2_at (by omega), u2_at (by omega), u2_at (by omega), u2_hit]
    have B5b : B 5 (129 * q + (2 * j + 2)) = nI (e (j + 1)) := by rw [hB, u2_at (by omega), u2_at (by omega), u2_at (by omega), u2_at (by omega), u2_hit]
    have B2 : B 2 q = A 2 q := by rw [hB, u2_at (by omega), u2_at (by omega), u2_at (by omega), u2_at (by omega), u2_at (by omega)]
    have Bfr : fr q A B := by
      rw [hB]
      exact ((((fr.refl.st (by unfold fw; omega)).st (by unfold fw; omega)).st (by unfold fw; omega)).st (by unfold fw; omega)).st (by unfold fw; omega)
    have Bfk : fk q A B := by
      rw [hB]
      exact ((((fk.refl.st (by decide)).st (by decide)).st (by decide)).st (by decide)).st (by decide)
    obtain ⟨A', r1, r2, r3, r4, r5⟩ := m_ins_loop (M := M) (X := X) (h := h) (c := c) (e := e) (t := c j + c (j + 1)) (made := 2 * m - j) (K := fun (h57 : Hp) (x58 : Int32) =>
      gR h57 M 5 21 (fun a60 =>
      stI h57 a60 0 x58 (nI (2 * m - j)) (fun h61 =>
      lpG (fun _ _ _ _ => none) W (LM_halve_80 M (nI q) K) h61 (nI j + 1) (nI (2 * m - j) + 1) (nI (2 * j))))) (by have := hcb j (by omega); have := hcb (j + 1) (by omega); omega) (by omega) j fu B (by omega) (by show j < 100000; omega) (fun x hx => by
        have mx := m4 x (vp _ (by omega))
        rw [B12, B13 _ (by omega)]
        exact ⟨m2 x (by omega), by omega, mx.2.1, by have := hcb x (by omega); omega⟩) B13h
    have e1 : nI (j + 1 + 1) - 1 = nI (j + 1) := nI_pred (j + 1)
    have e2 : nI (j + 1 + 1) - 2 = nI j := nI_s2
    have e3 : nI (j + 1 + 1) + (-2) = nI j := by rw [← e2, Int32.sub_eq_add_neg]
    have e4 : nI (2 * (j + 1)) + (-2) = nI (2 * j) := by
      have : nI (2 * (j + 1)) + (-2) = nI (2 * j + 2) - 2 := by rw [Int32.sub_eq_add_neg]; rfl
      rw [this]; exact nI_s2
    have e5 : (nI (2 * (j + 1)) - 2) / 2 = nI j := by
      have : nI (2 * (j + 1)) - 2 = nI (2 * j) := nI_s2
      rw [this]
      have : nI (2 * j) / 2 = nI (2 * j / 2) := pk_div (d := 2) (by omega) (by omega) (by omega)
      rw [this]; congr 1; omega
    have e6 : nI (129 * q + 2 * (j + 1)) - 1 = nI (129 * q + (2 * j + 1)) := nI_pred (129 * q + (2 * j + 1))
    have e7 : 129 * q + 2 * (j + 1) = 129 * q + (2 * j + 2) := by omega
    have d1 : (u2 A 5 (129 * q + (2 * j + 2)) (nI (e (j + 1)))) 12 j = nI (e j) := by rw [u2_at (by omega)]; exact m2 j (by omega)
    have d2 : (u2 (u2 (u2 A 5 (129 * q + (2 * j + 2)) (nI (e (j + 1)))) 5 (129 * q + (2 * j + 1)) (nI (e j))) 8 (64 * q + j) (nI (2 * m - j))) 12 (j + 1) = nI (e (j + 1)) := by rw [u2_at (by omega), u2_at (by omega), u2_at (by omega)]; exact m2 (j + 1) (by omega)
    have d3 : (u2 (u2 (u2 A 5 (129 * q + (2 * j + 2)) (nI (e (j + 1)))) 5 (129 * q + (2 * j + 1)) (nI (e j))) 8 (64 * q + j) (nI (2 * m - j))) 12 j = nI (e j) := by rw [u2_at (by omega), u2_at (by omega), u2_at (by omega)]; exact m2 j (by omega)
    have d4 : (u2 (u2 (u2 A 5 (129 * q + (2 * j + 2)) (nI (e (j + 1)))) 5 (129 * q + (2 * j + 1)) (nI (e j))) 8 (64 * q + j) (nI (2 * m - j))) 13 (e (j + 1)) = nI (c (j + 1)) := by rw [u2_at (by omega), u2_at (by omega), u2_at (by omega)]; exact ej1.2.1
    have d5 : (u2 (u2 (u2 A 5 (129 * q + (2 * j + 2)) (nI (e (j + 1)))) 5 (129 * q + (2 * j + 1)) (nI (e j))) 8 (64 * q + j) (nI (2 * m - j))) 13 (e j) = nI (c j) := by rw [u2_at (by omega), u2_at (by omega), u2_at (by omega)]; exact ej.2.1
    have d6 : nI (c (j + 1)) + nI (c j) = nI (c j + c (j + 1)) := by rw [nI_add, Nat.add_comm]
    rw [lpG_s, LM_halve_80.eq_1, if_neg (show ¬ nI (j + 1 + 1) ≤ 1 from nI_ge (a := 1) (by omega) (by omega)), mr_at, mr_pi, e1, ml_pi (by omega), m2 (j + 1) (by omega), ix, e7, ms_at (by omega), mr_at, mr_pi, e2, ml_pi (by omega), d1]
    rw [show nI (129 * q + (2 * j + 2)) - 1 = nI (129 * q + (2 * j + 1)) from e6, ms_at (by omega), mr_ow, gd_t (by decide), e5, iw, ms_ow (by omega), mr_nc, mr_nc, mr_pi, ml_pi (by omega), d2, ml_nc (by omega), d4, mr_nc, mr_pi, ml_pi (by omega), d3, ml_nc (by omega), d5, d6, ms_nc (by omega), mr_ns, ms_ns (by omega), jn_eq, ← hB]
    try dsimp only
    rw [e3, e4, r1]
    try dsimp only
    rw [mr_pi, ms_pi (by omega), nI_1, nI_1]
    have e8 : 2 * m - j + 1 = 2 * m + 1 - j := by omega
    rw [e8]
    have A'2 : ∀ i x, i ≠ 12 → A' i x = B i x := fun i x hi => by rw [r2 i hi]
    generalize inP c (c j + c (j + 1)) j = at' at a1 r3 r4 V1 ⊢
    have F : ∀ (f : Nat → Nat) (v : Nat) {y : Nat}, Vs m (j + 1) y → ph at' j f v (fi at' j y) = f y ∧ Vs m j (fi at' j y) ∧ fi at' j y ≠ at' := fun f v y hy => ph_fi a1 hy (by omega)
    have vat : Vs m j at' := Or.inl a1
    have H' : MH (u2 A' 12 at' (nI (2 * m - j))) q m j (ph at' j c (c j + c (j + 1))) (ph at' j g 0) (wn at' j w) (ph at' j e (2 * m - j)) := by
      refine ⟨?_, fun x hx => ?_, fun x hx1 hx2 => ?_, fun x hx => ?_, fun x y hx hy ee => ?_, fun k hk => ?_, fun i i1 i2 => ?_⟩
      · rw [u2_at (by omega), A'2 2 q (by omega), B2]; exact m1
      · rcases Nat.lt_trichotomy x at' with z | z | z
        · rw [u2_at (by omega), r3 x z, B12, ph_lt z]; exact m2 x (by omega)
        · subst z; rw [u2_hit, ph_at]
        · rw [u2_at (by omega), r4 x z hx, B12, ph_mid z hx]; exact m2 _ (by omega)
      · rw [u2_at (by omega), A'2 5 _ (by omega)]
        rcases (show x = 2 * j + 1 ∨ x = 2 * j + 2 ∨ 2 * j + 3 ≤ x by omega) with z | z | z
        · rw [z, B5a, ph_1 a1]
        · rw [z, B5b, ph_2 a1]
        · rw [B5 _ (by omega) (by omega), ph_far a1 z]; exact m3 x (by omega) hx2
      · rw [u2_at (by omega), u2_at (by omega), A'2 13 _ (by omega), A'2 14 _ (by omega)]
        by_cases z : x = at'
        · subst z
          rw [ph_at, ph_at, ph_at, B13h, B14h]
          exact ⟨by omega, rfl, rfl⟩
        · obtain ⟨y, y1, y2⟩ := fi_sur a1 hx (by omega) z
          have my := m4 y y1
          rw [← y2, (F c _ y1).1, (F g _ y1).1, (F e _ y1).1, B13 _ (by omega), B14 _ (by omega)]
          exact ⟨by omega, my.2.1, my.2.2⟩
      · by_cases z : x = at' <;> by_cases z2 : y = at'
        · rw [z, z2]
        · exfalso
          obtain ⟨y', y1, y2⟩ := fi_sur a1 hy (by omega) z2
          have my := m4 y' y1
          rw [z, ph_at, ← y2, (F e _ y1).1] at ee
          omega
        · exfalso
          obtain ⟨x', x1, x2⟩ := fi_sur a1 hx (by omega) z
          have mx := m4 x' x1
          rw [z2, ph_at, ← x2, (F e _ x1).1] at ee
          omega
        · obtain ⟨x', x1, x2⟩ := fi_sur a1 hx (by omega) z
          obtain ⟨y', y1, y2⟩ := fi_sur a1 hy (by omega) z2
          rw [← x2, ← y2, (F e _ x1).1, (F e _ y1).1] at ee
          rw [← x2, ← y2, m5 x' y' x1 y1 ee]
      · by_cases z : k = 2 * m - j
        · exact ⟨at', vat, by rw [ph_at]; exact z.symm⟩
        · obtain ⟨x, x1, x2⟩ := m6 k (by omega)
          exact ⟨fi at' j x, (F e 0 x1).2.1, by rw [(F e _ x1).1]; exact x2⟩
      · rw [u2_at (by omega), A'2 8 _ (by omega)]
        by_cases z : i = j
        · subst z
          unfold wn
          rw [B8h, if_pos rfl, ph_at]
        · unfold wn
          rw [B8 _ (by omega), if_neg z, (F e _ (v1 i (by omega) i2).1).1]
          exact m7 i (by omega) i2
    have A'fr : fr q A (u2 A' 12 at' (nI (2 * m - j))) := by
      refine fr.st (Bfr.trans ⟨fun l hl => ?_, fun l hl => ?_, fun l hl => A'2 8 l (by omega), r2 4 (by omega), r2 11 (by omega)⟩) (by unfold fw; omega)
      · exact ⟨A'2 1 l (by omega), A'2 2 l (by omega), A'2 3 l (by omega)⟩
      · exact ⟨A'2 5 l (by omega), A'2 6 l (by omega), A'2 7 l (by omega), A'2 9 l (by omega), A'2 10 l (by omega)⟩
    have A'fk : fk q A (u2 A' 12 at' (nI (2 * m - j))) := fk.st (Bfk.trans ⟨A'2 1 q (by omega), A'2 3 q (by omega)⟩) (by decide)
    obtain ⟨A2, e2', s1, s2, s3, s4⟩ := m_halve_loop (n := n) (S := S) (K := K) hq hm hS0 j W _ _ _ _ _ (by omega) (by omega) V1 H'
    exact ⟨A2, e2', s1, s2, A'fr.trans s3, A'fk.trans s4⟩
end MH
