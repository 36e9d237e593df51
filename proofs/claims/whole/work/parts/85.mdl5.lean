/-! the model's step of a COUNTED tree, known sign and new -/
def cm (A : Nat → Nat → Int32) (q k : Nat) (s : Int32) : Nat → Nat → Int32 := u2 (u2 (u2 (u2 A 6 (129 * q + k) 0) 7 (129 * q + k) s) 5 (129 * q + k) (nI k)) 2 q (nI (k + 1))
theorem cm_2 {A : Nat → Nat → Int32} {q k : Nat} {s : Int32} : cm A q k s 2 q = nI (k + 1) := u2_hit
theorem cm_5 {A : Nat → Nat → Int32} {q k : Nat} {s : Int32} : cm A q k s 5 (129 * q + k) = nI k := by unfold cm; rw [u2_at (by omega), u2_hit]
theorem cm_6 {A : Nat → Nat → Int32} {q k : Nat} {s : Int32} : cm A q k s 6 (129 * q + k) = 0 := by unfold cm; rw [u2_at (by omega), u2_at (by omega), u2_at (by omega), u2_hit]
theorem cm_7 {A : Nat → Nat → Int32} {q k : Nat} {s : Int32} : cm A q k s 7 (129 * q + k) = s := by unfold cm; rw [u2_at (by omega), u2_at (by omega), u2_hit]
theorem cm_at {A : Nat → Nat → Int32} {q k : Nat} {s : Int32} {i l : Nat} (hi : i ≠ 2) (hl : l ≠ 129 * q + k ∨ (i ≠ 5 ∧ i ≠ 6 ∧ i ≠ 7)) : cm A q k s i l = A i l := by unfold cm; rw [u2_at (by omega), u2_at (by omega), u2_at (by omega), u2_at (by omega)]
theorem cm_fr {A : Nat → Nat → Int32} {q k : Nat} {s : Int32} (hk : k < 129) : fr q A (cm A q k s) := (((fr.refl.st (by unfold fw; omega)).st (by unfold fw; omega)).st (by unfold fw; omega)).st (by unfold fw; omega)
theorem cm_fk {A : Nat → Nat → Int32} {q k : Nat} {s : Int32} : fk q A (cm A q k s) := (((fk.refl.st (by decide)).st (by decide)).st (by decide)).st (by decide)
section MN
variable {M : Nat} {X : Nat → Int32} {h : Hp} {q m : Nat}
theorem m_comes {A : Nat → Nat → Int32} {k : Nat} {s : Int32} (hq : q < 12) (hk : k < 129) (hA : A 2 q = nI k) : FM_comes (om M X A h) M (nI q) (nI k) s = some (om M X (cm A q k s) h) := by
  unfold FM_comes
  rw [mr_cn, ix, ms_cn (by omega), mr_sg, ms_sg (by omega), mr_at, mr_ma, ml_ma hq, u2_at (by omega), u2_at (by omega), hA, ix, ms_at (by omega), mr_ma, ml_ma hq, u2_at (by omega), u2_at (by omega), u2_at (by omega), hA, ms_ma hq, nI_1]
  rfl
/-- the split in the model -/
def ms (A : Nat → Nat → Int32) (q m e : Nat) (s : Int32) : Nat → Nat → Int32 := cm (cm (u2 (u2 A 7 (129 * q + e) (-1)) 8 (64 * q + m) (nI e)) q (2 * m + 1) s) q (2 * m + 2) (-2)
theorem ms_MT {A : Nat → Nat → Int32} {c g o t : Nat → Nat} {s : Nat} (hT : MT A q m c g o t) (hc0 : c (2 * m) = 0) (hb : ∀ k, k < m → o k < 2 * k + 1) : MT (ms A q m (t (2 * m)) (nI s)) q (m + 1) (spZ c m) (spG g m s) (spO o m) (fun x => if x ≤ 2 * m then t x else x) := by
  obtain ⟨h1, h2, h3, h4, h5⟩ := hT
  have te := (h2 (2 * m) (by omega)).1
  have tl : ∀ x, x ≤ 2 * m → (if x ≤ 2 * m then t x else x) = t x := fun x hx => if_pos hx
  have tg : ∀ x, 2 * m < x → (if x ≤ 2 * m then t x else x) = x := fun x hx => if_neg (by omega)
  refine ⟨?_, fun p hp => ?_, fun p p' hp hp' e => ?_, fun k hk => ?_, fun k hk => ?_⟩
  · unfold ms; rw [cm_2]; rfl
  · rcases (show p < 2 * m ∨ p = 2 * m ∨ p = 2 * m + 1 ∨ p = 2 * m + 2 by omega) with z | z | z | z
    · have hx := h2 p (by omega)
      have hne : t p ≠ t (2 * m) := fun e => by have := h3 p (2 * m) (by omega) (by omega) e; omega
      dsimp only
      rw [tl p (by omega)]
      unfold ms spZ spG
      rw [if_pos z, if_pos z, cm_at (by omega) (by omega), cm_at (by omega) (by omega), u2_at (by omega), u2_at (by omega), cm_at (by omega) (by omega), cm_at (by omega) (by omega), u2_at (by omega), u2_at (by omega), cm_at (by omega) (by omega), cm_at (by omega) (by omega), u2_at (by omega), u2_at (by omega)]
      exact ⟨by omega, hx.2⟩
    · subst z
      have hx := h2 (2 * m) (by omega)
      dsimp only
      rw [tl _ (by omega)]
      unfold ms spZ spG
      rw [if_neg (by omega), if_neg (by omega), if_pos rfl, cm_at (by omega) (by omega), cm_at (by omega) (by omega), u2_at (by omega), u2_at (by omega), cm_at (by omega) (by omega), cm_at (by omega) (by omega), u2_at (by omega), u2_at (by omega), cm_at (by omega) (by omega), cm_at (by omega) (by omega), u2_at (by omega), u2_hit]
      rw [hc0] at hx
      exact ⟨by omega, hx.2.1, hx.2.2.1, rfl⟩
    · subst z
      dsimp only
      rw [tg _ (by omega)]
      unfold ms spZ spG
      rw [if_neg (by omega), if_neg (by omega), if_neg (by omega), if_pos rfl, cm_at (by omega) (by omega), cm_5, cm_at (by omega) (by omega), cm_6, cm_at (by omega) (by omega), cm_7]
      exact ⟨by omega, rfl, rfl, rfl⟩
    · subst z
      dsimp only
      rw [tg _ (by omega)]
      unfold ms spZ spG
      rw [if_neg (by omega), if_neg (by omega), if_neg (by omega), if_neg (by omega), cm_5, cm_6, cm_7]
      exact ⟨by omega, rfl, rfl, rfl⟩
  · dsimp only at e
    rcases Nat.lt_or_ge (2 * m) p with z | z <;> rcases Nat.lt_or_ge (2 * m) p' with z2 | z2
    · rw [tg p z, tg p' z2] at e; exact e
    · rw [tg p z, tl p' z2] at e; have := (h2 p' (by omega)).1; omega
    · rw [tl p z, tg p' z2] at e; have := (h2 p (by omega)).1; omega
    · rw [tl p z, tl p' z2] at e; exact h3 p p' (by omega) (by omega) e
  · rcases Nat.lt_or_ge (2 * m) k with z | z
    · exact ⟨k, hk, tg k z⟩
    · obtain ⟨p, p1, p2⟩ := h4 k (by omega)
      exact ⟨p, by omega, (tl p (by omega)).trans p2⟩
  · dsimp only
    unfold ms spO
    rw [cm_at (by omega) (by omega), cm_at (by omega) (by omega)]
    by_cases z : k < m
    · have := hb k z
      rw [if_pos z, tl _ (by omega), u2_at (by omega), u2_at (by omega)]
      exact h5 k z
    · have : k = m := by omega
      subst this
      rw [if_neg z, tl _ (by omega), u2_hit]
theorem ms_fr {A : Nat → Nat → Int32} {e : Nat} {s : Int32} (hm : m < 64) (he : e < 129) : fr q A (ms A q m e s) := (((fr.refl.st (by unfold fw; omega)).st (by unfold fw; omega)).trans (cm_fr (by omega))).trans (cm_fr (by omega))
theorem ms_fk {A : Nat → Nat → Int32} {e : Nat} {s : Int32} : fk q A (ms A q m e s) := (((fk.refl.st (by decide)).st (by decide)).trans cm_fk).trans cm_fk
/-- what is left of the step once the sign is in the tree: the walk up, and the halving -/
def mRest (M : Nat) (q s : Int32) (h3 : Hp) : Option Hp :=
  gd (isO h3 M 5 = true) ((FM_nodeOf h3 M q s).bind (fun r6 =>
  gd (isO h3 M 5 = true) ((FM_placeOf h3 M q r6).bind (fun r8 =>
  jn (fun (h9 : Hp) =>
  gd (isO h9 M 5 = true) ((FM_countAt h9 M q 0).bind (fun r12 =>
  gI h9 M 5 2 (fun x13 =>
  jn (fun (h14 : Hp) =>
  some h14)
  (fun (j15 : Hp → Option Hp) =>
  if r12 < x13 then
    (j15 h9)
  else
    (gd (isO h9 M 5 = true) ((FM_halve h9 M q).bind (fun r17 =>
    j15 r17))))))))
  (fun (K10 : Hp → Option Hp) =>
  lpG (fun _ _ => none) fu (LM_counts_87 M q K10) h3 r8)))))
def mEnd (M : Nat) (q : Int32) (h9 : Hp) : Option Hp :=
  gd (isO h9 M 5 = true) ((FM_countAt h9 M q 0).bind (fun r12 =>
  gI h9 M 5 2 (fun x13 =>
  jn (fun (h14 : Hp) =>
  some h14)
  (fun (j15 : Hp → Option Hp) =>
  if r12 < x13 then
    (j15 h9)
  else
    (gd (isO h9 M 5 = true) ((FM_halve h9 M q).bind (fun r17 =>
    j15 r17)))))))
theorem m_end {n B : Nat} {A : Nat → Nat → Int32} {T : CGO} {t : Nat → Nat} (hq : q < 12) (hn : n ≤ 64) (hC : CI n B m T.1 T.2.1 T.2.2) (hB : B < 2 ^ 28) (hT : MT A q m T.1 T.2.1 T.2.2 t) :
    ∃ (A' : Nat → Nat → Int32) (t' : Nat → Nat), mEnd M (nI q) (om M X A h) = some (om M X A' h) ∧ MT A' q m (hvIf (X 2) m T).1 (hvIf (X 2) m T).2.1 (hvIf (X 2) m T).2.2 t' ∧ fr q A A' ∧ A' 1 q = A 1 q ∧ A' 3 q = hvUp (X 2) T (A 3 q) := by
  have hm : m ≤ 64 := by have := hC.m_le; omega
  unfold mEnd
  have hc := m_countAt (M := M) (X := X) (h := h) hq hm hT (show 0 < 2 * m + 1 by omega)
  rw [show nI 0 = (0 : Int32) from rfl] at hc
  rw [gd_t o_om, hc, Option.bind_some, mi_2, jn_eq]
  try dsimp only
  unfold hvIf hvUp
  by_cases e : nI (T.1 0) < X 2
  · rw [if_pos e, if_pos e, if_pos e]
    exact ⟨A, t, rfl, hT, fr.refl, rfl, rfl⟩
  · rw [if_neg e, if_neg e, if_neg e, gd_t o_om]
    obtain ⟨A', t', r1, r2, r3, r4, r5⟩ := m_halve (M := M) (X := X) (h := h) hq hn hC hB hT
    rw [r1, Option.bind_some]
    exact ⟨A', t', rfl, r2, r3, r4, r5⟩
theorem m_counts_known {n B p s : Nat} {A : Nat → Nat → Int32} {c g o t : Nat → Nat} (hq : q < 12) (hn : n ≤ 64) (hC : CI n B m c g o) (hB : B < 2 ^ 27) (hT : MT A q m c g o t) (hp : p < 2 * m + 1) (hg : g p = s + 2) :
    ∃ (A' : Nat → Nat → Int32) (t' : Nat → Nat), FM_counts (om M X A h) M (nI q) (nI s) = some (om M X A' h) ∧ MT A' q m (hvIf (X 2) m (stW (2 * m + 1) c g o p)).1 (hvIf (X 2) m (stW (2 * m + 1) c g o p)).2.1 (hvIf (X 2) m (stW (2 * m + 1) c g o p)).2.2 t' ∧ fr q A A' ∧ A' 1 q = A 1 q ∧ A' 3 q = hvUp (X 2) (stW (2 * m + 1) c g o p) (A 3 q) := by
  have hm : m ≤ 64 := by have := hC.m_le; omega
  have hB0 := hC.2.2.2
  have hG := hC.2.1
  have hlt : p < 2 * m := by
    have : p ≠ 2 * m := fun e => by have := hG.2.1; rw [← e] at this; omega
    omega
  have hl : ∀ k, k < m → o k ≠ p := fun k hk e => by
    have := (hG.1 p hp).mpr ⟨k, hk, e⟩
    omega
  have hno := m_nodeOf (M := M) (X := X) (h := h) hq hn hm hG hT hp (by omega)
  rw [hg, show sI (s + 2) = nI s from rfl] at hno
  have C1 := hC.step (f := 2 * m + 1) hp hg hp
  obtain ⟨A1, t1, r1, r2, r3, r4⟩ := m_ct_loop (M := M) (X := X) (h := h) (K := mEnd M (nI q)) hq hm (2 * m + 1) c g o t p fu A hT (PI_leaf hC.1 hl) hp hlt (by show p + 1 < 100000; omega) (by omega)
  obtain ⟨A2, t2, s1, s2, s3, s4, s5⟩ := m_end (M := M) (X := X) (h := h) hq hn C1 (by omega) r2
  unfold FM_counts
  rw [gd_t o_om, hno, Option.bind_some, jn_eq]
  try dsimp only
  rw [if_neg (m1_nI (by have := (hT.2.1 p hp).1; omega)), gd_t o_om, hno, Option.bind_some, gd_t o_om, m_placeOf hq hm hT hp, Option.bind_some, jn_eq]
  refine ⟨A2, t2, ?_, s2, r3.trans s3, s4.trans r4.1, s5.trans (by rw [r4.2])⟩
  exact r1.trans s1
theorem m_counts_new {n B s : Nat} {A : Nat → Nat → Int32} {c g o t : Nat → Nat} (hq : q < 12) (hn : n ≤ 64) (hC : CI n B m c g o) (hB : B < 2 ^ 27) (hT : MT A q m c g o t) (hs : s < n) (hns : ¬ HasS m g s) :
    ∃ (A' : Nat → Nat → Int32) (t' : Nat → Nat), FM_counts (om M X A h) M (nI q) (nI s) = some (om M X A' h) ∧ MT A' q (m + 1) (hvIf (X 2) (m + 1) (nwT m c g o s)).1 (hvIf (X 2) (m + 1) (nwT m c g o s)).2.1 (hvIf (X 2) (m + 1) (nwT m c g o s)).2.2 t' ∧ fr q A A' ∧ A' 1 q = A 1 q ∧ A' 3 q = hvUp (X 2) (nwT m c g o s) (A 3 q) := by
  have hm := hC.m_lt hs hns
  have hB0 := hC.2.2.2
  have hG := hC.2.1
  have hP := hC.1
  have C1 := hC.new hs hns
  have G1 := GI_split hG hP.1 hs hns
  have P1 := PI_split hP
  have S0 := ms_MT (s := s) hT hP.2.2.2.2.2.1 hP.1
  have te := (hT.2.1 (2 * m) (by omega)).1
  have hg : spG g m s (2 * m + 1) = s + 2 := by unfold spG; rw [if_neg (by omega), if_neg (by omega), if_pos rfl]
  have hno := m_nodeOf (M := M) (X := X) (h := h) hq hn (by omega) hG hT (show 2 * m < 2 * m + 1 by omega) (by rw [hG.2.1]; omega)
  rw [hG.2.1, show sI 1 = (-2) from rfl] at hno
  have hno2 := m_nodeOf (M := M) (X := X) (h := h) hq hn (by omega) G1 S0 (show 2 * m + 1 < 2 * (m + 1) + 1 by omega) (by rw [hg]; omega)
  rw [hg, show sI (s + 2) = nI s from rfl] at hno2
  have hpl := m_placeOf (M := M) (X := X) (h := h) hq (show m + 1 ≤ 64 by omega) S0 (show 2 * m + 1 < 2 * (m + 1) + 1 by omega)
  -- the two first turns
  have hpos : ∀ l, l < 2 * m → 1 ≤ c l := hP.2.2.2.2.2.2
  have hbd : ∀ j, j < 2 * (m + 1) + 1 → spZ c m j < 2 ^ 29 + 1 := fun j hj => by
    unfold spZ
    split
    · have := hP.bd (j := j) (by omega); omega
    · omega
  have z1 : ∀ l, l < 2 * m → spZ c m l = c l := fun l hl => by unfold spZ; rw [if_pos hl]
  have z2 : ∀ l, ¬ l < 2 * m → spZ c m l = 0 := fun l hl => by unfold spZ; rw [if_neg hl]
  have q0 : spO o m ((2 * m + 1 - 1) / 2) = 2 * m := by
    have : (2 * m + 1 - 1) / 2 = m := by omega
    rw [this]; unfold spO; rw [if_neg (by omega)]
  have L1 : lsN (spZ c m) (spO o m ((2 * m + 1 - 1) / 2)) (2 * m + 1) 0 (2 * m + 1) = 2 * m + 1 := lsN_self fun l hl e => by
    rw [q0]
    rw [z2 (2 * m + 1) (by omega)] at e
    rcases Nat.lt_or_ge l (2 * m) with q | q
    · rw [z1 l q] at e; have := hpos l q; omega
    · omega
  have L2 : lsN (inc (spZ c m) (2 * m + 1)) (spO o m ((2 * m - 1) / 2)) (2 * m) 0 (2 * m) = 2 * m := lsN_self fun l hl e => by
    exfalso
    unfold inc at e
    rw [if_neg (by omega), if_neg (by omega), z2 (2 * m) (by omega), z1 l hl] at e
    have := hpos l hl; omega
  have tr : ∀ x : Nat, (fun j => spG g m s (trp x x j)) = spG g m s ∧ (fun k => trp x x (spO o m k)) = spO o m := fun x => ⟨funext fun j => by rw [trp_self], funext fun j => by rw [trp_self]⟩
  obtain ⟨A1, t1, r1, r2, r3, r4⟩ := m_ct_one (M := M) (X := X) (h := h) (K := mEnd M (nI q)) (rec := lpG (fun _ _ => none) (99998 + 1) (LM_counts_87 M (nI q) (mEnd M (nI q)))) hq (show m + 1 ≤ 64 by omega) S0 (show 2 * m + 1 < 2 * (m + 1) + 1 by omega) P1.1 (fun j hj => by have := hbd j hj; omega)
  rw [L1, if_neg (by omega), q0] at r1
  rw [L1, (tr _).1, (tr _).2] at r2
  obtain ⟨A2, t2, r5, r6, r7, r8⟩ := m_ct_one (M := M) (X := X) (h := h) (K := mEnd M (nI q)) (rec := lpG (fun _ _ => none) 99998 (LM_counts_87 M (nI q) (mEnd M (nI q)))) hq (show m + 1 ≤ 64 by omega) r2 (show 2 * m < 2 * (m + 1) + 1 by omega) P1.1 (fun j hj => by have := hbd j hj; unfold inc; split <;> omega)
  rw [L2] at r5
  rw [L2, (tr _).1, (tr _).2] at r6
  have ec : inc (inc (spZ c m) (2 * m + 1)) (2 * m) = spC c m := funext fun j => by
    unfold inc spZ spC
    by_cases a1 : j < 2 * m
    · rw [if_neg (by omega), if_neg (by omega), if_pos a1, if_pos a1]
    · rw [if_neg a1, if_neg a1]
      by_cases a2 : j = 2 * m
      · rw [if_pos a2, if_neg (by omega), if_pos (by omega)]
      · rw [if_neg a2]
        by_cases a3 : j = 2 * m + 1
        · rw [if_pos a3, if_pos (by omega)]
        · rw [if_neg a3, if_neg (by omega)]
  rw [ec] at r6
  have R : ∃ (A3 : Nat → Nat → Int32) (t3 : Nat → Nat), lpG (fun _ _ => none) fu (LM_counts_87 M (nI q) (mEnd M (nI q))) (om M X (ms A q m (t (2 * m)) (nI s)) h) (nI (2 * m + 1)) = mEnd M (nI q) (om M X A3 h) ∧ MT A3 q (m + 1) (nwT m c g o s).1 (nwT m c g o s).2.1 (nwT m c g o s).2.2 t3 ∧ fr q A2 A3 ∧ fk q A2 A3 := by
    rw [show fu = 99998 + 1 + 1 from rfl, lpG_s, r1, lpG_s, r5]
    by_cases e : m = 0
    · have en : nwT m c g o s = (spC c m, spG g m s, spO o m) := if_pos e
      rw [en, if_pos (by omega)]
      refine ⟨A2, t2, ?_, r6, fr.refl, fk.refl⟩
      rw [show (99998 : Nat) = 99997 + 1 from rfl, lpG_s, LM_counts_87.eq_1, if_pos rfl]
    · have en : nwT m c g o s = stW (2 * m + 1) (spC c m) (spG g m s) (spO o m) (2 * m - 2) := if_neg e
      have e4 : (2 * m - 1) / 2 = m - 1 := by omega
      rw [en, if_neg (by omega), e4, spO_at (by omega), hP.2.2.2.2.1 (by omega)]
      rw [if_neg e] at P1
      exact m_ct_loop (K := mEnd M (nI q)) hq (by omega) (2 * m + 1) _ _ _ t2 (2 * m - 2) 99998 A2 r6 P1 (by omega) (by omega) (by omega) (by unfold spC; rw [if_pos (by omega)]; omega)
  obtain ⟨A3, t3, r9, r10, r11, r12⟩ := R
  obtain ⟨A4, t4, s1, s2, s3, s4, s5⟩ := m_end (M := M) (X := X) (h := h) hq hn C1 (by omega) r10
  have e2 : (nI (2 * m + 1) - 1) / 2 = nI m := by
    rw [half (by omega) (by omega)]; congr 1; omega
  unfold FM_counts
  rw [gd_t o_om, m_nodeOf_none hq hn (by omega) hG hT (by omega) hns, Option.bind_some, jn_eq]
  try dsimp only
  rw [if_pos rfl, gd_t o_om, hno, Option.bind_some, mr_ma, ml_ma hq, hT.1, mr_sg, ix, ms_sg (by omega), mr_ow, gd_t (by decide), e2, iw, ms_ow (by omega), gd_t o_om, m_comes hq (show 2 * m + 1 < 129 by omega) (by rw [u2_at (by omega), u2_at (by omega)]; exact hT.1), Option.bind_some, gd_t o_om, nI_1, m_comes hq (show 2 * m + 1 + 1 < 129 by omega) cm_2, Option.bind_some]
  have em : cm (cm (u2 (u2 A 7 (129 * q + t (2 * m)) (-1)) 8 (64 * q + m) (nI (t (2 * m)))) q (2 * m + 1) (nI s)) q (2 * m + 1 + 1) (-2) = ms A q m (t (2 * m)) (nI s) := rfl
  rw [em, gd_t o_om, hno2, Option.bind_some, gd_t o_om, hpl, Option.bind_some, jn_eq]
  have f1 := ((ms_fr (A := A) (s := nI s) (q := q) (by omega) (show t (2 * m) < 129 by omega)).trans r3).trans (r7.trans (r11.trans s3))
  have f2 : fk q A A3 := ((ms_fk (A := A) (s := nI s) (q := q)).trans r4).trans (r8.trans r12)
  exact ⟨A4, t4, r9.trans s1, s2, f1, s4.trans f2.1, s5.trans (by rw [f2.2])⟩
end MN
