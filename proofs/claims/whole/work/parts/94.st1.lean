/-! THE STATE between two calls: the class's cells and the model's say the same -/
def ca (q : Nat) : Nat := if q < 4 then 2 * q else if q < 8 then 2 * (q - 4) + 1 else q
theorem ca_lt {q : Nat} (h : q < 12) : ca q < 12 := by unfold ca; split; omega; split <;> omega
theorem ca_ne {q q' : Nat} (h : q < 12) (h' : q' < 12) (hne : q ≠ q') : ca q ≠ ca q' := by unfold ca; grind
def ad (Z q : Nat) : Nat := Z + 13 + 7 * ca q
theorem ad_w {Z t : Nat} (h : t < 4) : Z + 13 + 7 * (2 * t) = ad Z t := by unfold ad ca; rw [if_pos h]
theorem ad_r {Z t : Nat} (h : t < 4) : Z + 13 + 7 * (2 * t + 1) = ad Z (4 + t) := by unfold ad ca; rw [if_neg (by omega), if_pos (by omega)]; omega
theorem ad_s {Z t : Nat} : Z + 13 + 7 * (8 + t) = ad Z (8 + t) := by unfold ad ca; rw [if_neg (by omega), if_neg (by omega)]
theorem ad_et {Z e t : Nat} (he : e < 2) (ht : t < 4) : Z + 13 + 7 * (2 * t + e) = ad Z (4 * e + t) := by
  unfold ad ca
  by_cases z : e = 0
  · subst z; rw [if_pos (by omega)]; omega
  · have : e = 1 := by omega
    subst this; rw [if_neg (by omega), if_pos (by omega)]; omega
theorem ad_bd {Z q : Nat} (h : q < 12) : Z + 13 ≤ ad Z q ∧ ad Z q + 6 < Z + 97 := by
  have := ca_lt h
  unfold ad; omega
theorem ad_dj {Z q q' : Nat} (h : q < 12) (h' : q' < 12) (hne : q ≠ q') : ad Z q + 6 < ad Z q' ∨ ad Z q' + 6 < ad Z q := by
  have := ca_ne h h' hne
  unfold ad; omega
theorem qet {e t : Nat} : (4 : Int32) * nI e + nI t = nI (4 * e + t) := by
  rw [show (4 : Int32) = nI 4 from rfl, pk_mul, nI_add]
theorem q4 {t : Nat} : (4 : Int32) + nI t = nI (4 + t) := by rw [show (4 : Int32) = nI 4 from rfl, nI_add]
theorem q8 {t : Nat} : (8 : Int32) + nI t = nI (8 + t) := by rw [show (8 : Int32) = nI 8 from rfl, nI_add]
def PN (n wd : Nat) : Prop := 2 ≤ n ∧ n ≤ 64 ∧ 1 ≤ wd ∧ wd ≤ 6 ∧ n ≤ 2 ^ wd
def SC (Z n wd wb tb : Nat) (lm : Int32) (hs wr : Nat → Int32) (tr nd nu nb : Int32) (h : Hp) : Prop := KA Z n wd wb tb lm hs wr h ∧ KG Z tr nd nu nb h ∧ (∃ r ln, oc (Z + 7) (2 * n + 1 + wd) r ln h = h) ∧ ∃ pc ps pf pz, op (Z + 9) (n + 1) pc ps pf pz h = h
def SM (n wd wb tb : Nat) (lm : Int32) (hs wr : Nat → Int32) (X : Nat → Int32) (A : Nat → Nat → Int32) : Prop := X 0 = nI n ∧ X 1 = nI wd ∧ X 2 = lm ∧ X 13 = nI wb ∧ X 15 = nI tb ∧ tb ≤ wb ∧ wb ≤ 1000 ∧ (∀ j, j < wb → wr j = A 11 j ∧ ∃ b, b < 2 ∧ A 11 j = nI b) ∧ ∀ s, s < 4 → hs s = A 4 s ∧ ∃ b, b < 2 ∧ A 4 s = nI b
/-- the place of the reading in its tree -/
def RN (n wd a : Nat) (h : Hp) (v w b : Nat) : Prop := ∃ (P N : Nat) (fm es hv : Int32) (cn sg pa fs sn lf : Nat → Int32), ov n P a fm (nI N) es hv cn sg pa fs sn lf h = h ∧ v < N ∧ N ≤ 2 * n + 1 ∧ ((sg v = (-1) ∧ w = 0 ∧ b = 0) ∨ (sg v = (-2) ∧ b < wd ∧ w < 2 ^ b))
def RR (Z n wd : Nat) (tr nd nu nb : Int32) (X : Nat → Int32) (h : Hp) : Prop := (tr = (-1) ∧ nd = 0 ∧ nu = 0 ∧ nb = 0 ∧ X 16 = (-1)) ∨ ∃ t v w b : Nat, t < 4 ∧ tr = nI t ∧ nd = nI v ∧ nu = nI w ∧ nb = nI b ∧ X 16 = nI (4 + t) ∧ X 17 = nI v ∧ X 18 = nI b ∧ X 19 = nI w ∧ RN n wd (ad Z (4 + t)) h v w b
def out (Z : Nat) (h : Hp) : Prop := ∃ f : Nat → Int64, h (Z + 113) = some (.inl (2, 1, .inr (.inl f)))
/-- a tree on both sides, or a slot that holds none yet -/
def TS (Z n B q : Nat) (h : Hp) (A : Nat → Nat → Int32) : Prop := TR n (Z + 9) B (ad Z q) q h A ∨ (8 ≤ q ∧ A 4 (q - 8) = 0 ∧ ∃ (fm : Int32) (N : Nat) (es hv : Int32) (cn sg pa fs sn lf : Nat → Int32), ov n (Z + 9) (ad Z q) fm (nI N) es hv cn sg pa fs sn lf h = h)
section TSS
variable {Z n B q : Nat} {h h' : Hp} {A A' : Nat → Nat → Int32}
theorem TS.mono {B' : Nat} (s : TS Z n B q h A) (hB : B ≤ B') : TS Z n B' q h A := by
  rcases s with s | s
  · exact Or.inl (s.mono hB)
  · exact Or.inr s
theorem TS.ag (s : TS Z n B q h A) (hh : ∀ x, ad Z q ≤ x → x ≤ ad Z q + 6 → h' x = h x) : TS Z n B q h' A := by
  rcases s with s | ⟨s1, s2, fm, N, es, hv, cn, sg, pa, fs, sn, lf, s3⟩
  · exact Or.inl (s.ag hh)
  · exact Or.inr ⟨s1, s2, fm, N, es, hv, cn, sg, pa, fs, sn, lf, ov_ag s3 hh⟩
theorem TS.sameQ (s : TS Z n B q h A) (hn : n ≤ 64) (hs : sameQ q A A') (h4 : A' 4 = A 4) : TS Z n B q h A' := by
  rcases s with s | ⟨s1, s2, s3⟩
  · exact Or.inl (s.sameQ hn hs)
  · exact Or.inr ⟨s1, by rw [h4]; exact s2, s3⟩
theorem TS.tr (s : TS Z n B q h A) (hq : q < 8) : TR n (Z + 9) B (ad Z q) q h A := by
  rcases s with s | ⟨s1, _⟩
  · exact s
  · omega
theorem TS.sl {k : Nat} (s : TS Z n B (8 + k) h A) (hk : A 4 k = nI 1) : TR n (Z + 9) B (ad Z (8 + k)) (8 + k) h A := by
  rcases s with s | ⟨s1, s2, _⟩
  · exact s
  · rw [show 8 + k - 8 = k by omega, hk] at s2
    exact absurd s2 (by decide)
theorem TS.ov (s : TS Z n B q h A) : ∃ (fm : Int32) (N : Nat) (es hv : Int32) (cn sg pa fs sn lf : Nat → Int32), ov n (Z + 9) (ad Z q) fm (nI N) es hv cn sg pa fs sn lf h = h := by
  rcases s with (⟨m, c, g, o, hv, es, cn, sg, pa, fs, sn, lf, t, h1, h2, h3⟩ | ⟨u, d, hv, es, cn, sg, pa, fs, sn, lf, h1, h2, h3⟩) | ⟨_, _, s3⟩
  · exact ⟨_, _, _, _, _, _, _, _, _, _, h2⟩
  · exact ⟨_, _, _, _, _, _, _, _, _, _, h2⟩
  · exact s3
end TSS
def SS (Z n wd B wb tb : Nat) (lm : Int32) (hs wr : Nat → Int32) (tr nd nu nb : Int32) (X : Nat → Int32) (A : Nat → Nat → Int32) (h : Hp) : Prop :=
  PN n wd ∧ SC Z n wd wb tb lm hs wr tr nd nu nb h ∧ SM n wd wb tb lm hs wr X A ∧ RR Z n wd tr nd nu nb X h ∧ (∀ q, q < 12 → TS Z n B q h A) ∧ out Z h
def ST (Z n wd B : Nat) (h : Hp) : Prop := ∃ (wb tb : Nat) (lm : Int32) (hs wr : Nat → Int32) (tr nd nu nb : Int32) (X : Nat → Int32) (A : Nat → Nat → Int32), SS Z n wd B wb tb lm hs wr tr nd nu nb X A h ∧ om (Z + 97) X A h = h
theorem oc_ag {C m : Nat} {r : Nat → Int32} {ln : Int32} {h h' : Hp} (e : oc C m r ln h = h) (h0 : h' C = h C) (h1 : h' (C + 1) = h (C + 1)) : oc C m r ln h' = h' := by
  funext x
  by_cases e0 : x = C
  · subst e0; rw [oc_0, h0, ← e, oc_0]
  · by_cases e1 : x = C + 1
    · subst e1; rw [oc_1, h1, ← e, oc_1]
    · exact oc_out (by omega)
theorem oc_idem {C m : Nat} {r : Nat → Int32} {ln : Int32} {h : Hp} : oc C m r ln (oc C m r ln h) = oc C m r ln h := oc_oc
theorem om_ag {M : Nat} {X : Nat → Int32} {A : Nat → Nat → Int32} {h h' : Hp} (e : om M X A h = h) (hh : ∀ x, M ≤ x → x ≤ M + 15 → h' x = h x) : om M X A h' = h' := by
  refine om_same ?_ (fun i h1 h2 => ?_)
  · rw [hh M (by omega) (by omega), ← e, om_0]
  · rw [hh (M + i) (by omega) (by omega), ← e, om_i h1 h2]
theorem om_om {M : Nat} {X X' : Nat → Int32} {A A' : Nat → Nat → Int32} {h : Hp} : om M X A (om M X' A' h) = om M X A h := by
  funext x
  by_cases e0 : x = M
  · subst e0; rw [om_0, om_0]
  · by_cases e1 : M < x ∧ x ≤ M + 15
    · obtain ⟨i, rfl⟩ : ∃ i, x = M + i := ⟨x - M, by omega⟩
      rw [om_i (by omega) (by omega), om_i (by omega) (by omega)]
    · rw [om_out (by omega), om_out (by omega), om_out (by omega)]
theorem SC.ag {Z n wd wb tb : Nat} {lm : Int32} {hs wr : Nat → Int32} {tr nd nu nb : Int32} {h h' : Hp} (k : SC Z n wd wb tb lm hs wr tr nd nu nb h) (hh : ∀ x, Z ≤ x → x ≤ Z + 12 → h' x = h x) : SC Z n wd wb tb lm hs wr tr nd nu nb h' := by
  obtain ⟨k1, k2, ⟨r, ln, k3⟩, ⟨pc, ps, pf, pz, k4⟩⟩ := k
  exact ⟨k1.ag (fun x h1 h2 => hh x h1 (by omega)), k2.ag (hh _ (by omega) (by omega)), ⟨r, ln, oc_ag k3 (hh _ (by omega) (by omega)) (hh _ (by omega) (by omega))⟩, ⟨pc, ps, pf, pz, op_ag k4 (fun x h1 h2 => hh x (by omega) (by omega))⟩⟩
theorem RN.ag {n wd a : Nat} {h h' : Hp} {v w b : Nat} (r : RN n wd a h v w b) (hh : ∀ x, a ≤ x → x ≤ a + 6 → h' x = h x) : RN n wd a h' v w b := by
  obtain ⟨P, N, fm, es, hv, cn, sg, pa, fs, sn, lf, r1, r2⟩ := r
  exact ⟨P, N, fm, es, hv, cn, sg, pa, fs, sn, lf, ov_ag r1 hh, r2⟩
theorem RR.ag {Z n wd : Nat} {tr nd nu nb : Int32} {X X' : Nat → Int32} {h h' : Hp} (r : RR Z n wd tr nd nu nb X h) (hX : X' 16 = X 16 ∧ X' 17 = X 17 ∧ X' 18 = X 18 ∧ X' 19 = X 19) (hh : ∀ t, t < 4 → tr = nI t → ∀ x, ad Z (4 + t) ≤ x → x ≤ ad Z (4 + t) + 6 → h' x = h x) : RR Z n wd tr nd nu nb X' h' := by
  unfold RR
  rw [hX.1, hX.2.1, hX.2.2.1, hX.2.2.2]
  rcases r with r | ⟨t, v, w, b, r1, r2, r3, r4, r5, r6, r7, r8, r9, r10⟩
  · exact Or.inl r
  · exact Or.inr ⟨t, v, w, b, r1, r2, r3, r4, r5, r6, r7, r8, r9, r10.ag (hh t r1 r2)⟩
section SSS
variable {Z n wd B wb tb : Nat} {lm : Int32} {hs wr : Nat → Int32} {tr nd nu nb : Int32} {X X' : Nat → Int32} {A A' : Nat → Nat → Int32} {h h' : Hp}
theorem SS.tre {q : Nat} (S : SS Z n wd B wb tb lm hs wr tr nd nu nb X A h) (hq : q < 8) : TR n (Z + 9) B (ad Z q) q h A := (S.2.2.2.2.1 q (by omega)).tr hq
theorem SS.fin (S : SS Z n wd B wb tb lm hs wr tr nd nu nb X A h) : ST Z n wd B (om (Z + 97) X A h) := by
  obtain ⟨s1, s2, s3, s4, s5, s6⟩ := S
  have hh : ∀ x, x < Z + 97 → om (Z + 97) X A h x = h x := fun x hx => om_out (by omega)
  refine ⟨wb, tb, lm, hs, wr, tr, nd, nu, nb, X, A, ⟨s1, s2.ag (fun x _ h2 => hh x (by omega)), s3, s4.ag ⟨rfl, rfl, rfl, rfl⟩ (fun t ht _ x h1 h2 => ?_), fun q hq => ?_, ?_⟩, om_om⟩
  · have := ad_bd (Z := Z) (q := 4 + t) (by omega)
    exact hh x (by omega)
  · have := ad_bd (Z := Z) hq
    exact (s5 q hq).ag (fun x _ h2 => hh x (by omega))
  · obtain ⟨f, hf⟩ := s6
    exact ⟨f, by rw [om_out (by omega)]; exact hf⟩
theorem SM.ag (s : SM n wd wb tb lm hs wr X A) (hX : X' 0 = X 0 ∧ X' 1 = X 1 ∧ X' 2 = X 2 ∧ X' 13 = X 13 ∧ X' 15 = X 15) (h4 : A' 4 = A 4) (h11 : A' 11 = A 11) : SM n wd wb tb lm hs wr X' A' := by
  unfold SM
  rw [hX.1, hX.2.1, hX.2.2.1, hX.2.2.2.1, hX.2.2.2.2, h4, h11]
  exact s
/-- a query: nothing but the model's own scratch has changed -/
theorem SS.q (S : SS Z n wd B wb tb lm hs wr tr nd nu nb X A h) (hX : ∀ k, k ≠ 20 → k ≠ 25 → X' k = X k) (hA : ∀ i, i ≠ 15 → A' i = A i) : SS Z n wd (B + 1) wb tb lm hs wr tr nd nu nb X' A' h := by
  obtain ⟨s1, s2, s3, s4, s5, s6⟩ := S
  refine ⟨s1, s2, s3.ag ⟨hX _ (by decide) (by decide), hX _ (by decide) (by decide), hX _ (by decide) (by decide), hX _ (by decide) (by decide), hX _ (by decide) (by decide)⟩ (hA _ (by decide)) (hA _ (by decide)), s4.ag ⟨hX _ (by decide) (by decide), hX _ (by decide) (by decide), hX _ (by decide) (by decide), hX _ (by decide) (by decide)⟩ (fun _ _ _ _ _ _ => rfl), fun q hq => ?_, s6⟩
  exact ((s5 q hq).mono (Nat.le_succ B)).sameQ s1.2.1 (sameQ_15 hA) (hA 4 (by decide))
/-- the class's code was laid anew -/
theorem SS.code {r : Nat → Int32} {ln : Int32} (S : SS Z n wd B wb tb lm hs wr tr nd nu nb X A h) : SS Z n wd B wb tb lm hs wr tr nd nu nb X A (oc (Z + 7) (2 * n + 1 + wd) r ln h) := by
  obtain ⟨s1, ⟨k1, k2, k3, ⟨pc, ps, pf, pz, k4⟩⟩, s3, s4, s5, s6⟩ := S
  have hh : ∀ x, x < Z + 7 ∨ Z + 8 < x → oc (Z + 7) (2 * n + 1 + wd) r ln h x = h x := fun x hx => oc_out (by omega)
  refine ⟨s1, ⟨k1.ag (fun x _ h2 => hh x (by omega)), k2.ag (hh _ (by omega)), ⟨r, ln, oc_idem⟩, ⟨pc, ps, pf, pz, op_ag k4 (fun x h1 h2 => hh x (by omega))⟩⟩, s3, s4.ag ⟨rfl, rfl, rfl, rfl⟩ (fun t ht _ x h1 h2 => ?_), fun q hq => ?_, ?_⟩
  · have := ad_bd (Z := Z) (q := 4 + t) (by omega)
    exact hh x (by omega)
  · have := ad_bd (Z := Z) hq
    exact (s5 q hq).ag (fun x h1 h2 => hh x (by omega))
  · obtain ⟨f, hf⟩ := s6
    exact ⟨f, by rw [hh _ (by omega)]; exact hf⟩
end SSS
/-- what is owed of a call that changes the class, and of one that only asks -/
def OPC (Z n wd B : Nat) (c : Option (Hp × Int32)) (m : Hp → Option (Hp × Int32)) : Prop := ∃ h1 r, c = some (h1, r) ∧ isO h1 (Z + 97) 5 = true ∧ ∃ h2, m h1 = some (h2, r) ∧ ST Z n wd (B + 1) h2
def OPQ (Z n wd B : Nat) (h : Hp) (c : Option Int32) (m : Option (Hp × Int32)) : Prop := isO h (Z + 97) 5 = true ∧ ∃ r, c = some r ∧ ∃ h2, m = some (h2, r) ∧ ST Z n wd (B + 1) h2
section OPS
variable {Z n wd B wb tb : Nat} {lm : Int32} {hs wr : Nat → Int32} {tr nd nu nb : Int32} {X X' : Nat → Int32} {A A' : Nat → Nat → Int32} {h h1 : Hp} {r : Int32}
theorem OPQ_of {c : Option Int32} {m : Hp → Option (Hp × Int32)} (S : SS Z n wd B wb tb lm hs wr tr nd nu nb X A h) (hom : om (Z + 97) X A h = h) (hc : c = some r) (hX : ∀ k, k ≠ 20 → k ≠ 25 → X' k = X k) (hA : ∀ i, i ≠ 15 → A' i = A i) (hm : m (om (Z + 97) X A h) = some (om (Z + 97) X' A' h, r)) : OPQ Z n wd B h c (m h) := by
  refine ⟨by rw [← hom]; exact o_om, r, hc, _, ?_, (S.q hX hA).fin⟩
  rw [hom] at hm; exact hm
theorem OPC_of {c : Option (Hp × Int32)} {m : Hp → Option (Hp × Int32)} (hom : om (Z + 97) X A h1 = h1) (hc : c = some (h1, r)) (S : SS Z n wd (B + 1) wb tb lm hs wr tr nd nu nb X' A' h1) (hm : m (om (Z + 97) X A h1) = some (om (Z + 97) X' A' h1, r)) : OPC Z n wd B c m := by
  refine ⟨h1, r, hc, by rw [← hom]; exact o_om, _, ?_, S.fin⟩
  rw [hom] at hm; exact hm
end OPS
theorem u20 {X : Nat → Int32} {v : Int32} : ∀ k, k ≠ 20 → k ≠ 25 → upd X 20 v k = X k := fun _ h _ => if_neg h
section BITS
variable {Z n wd B : Nat} {h : Hp}
theorem p_bits (S : ST Z n wd B h) : OPQ Z n wd B h (FA_bits h Z) (FM_bits h (Z + 97)) := by
  obtain ⟨wb, tb, lm, hs, wr, tr, nd, nu, nb, X, A, S, hom⟩ := S
  refine OPQ_of (m := fun h => FM_bits h (Z + 97)) (r := nI wb) (X' := upd X 20 0) (A' := A) S hom ?_ u20 (fun _ _ => rfl) ?_
  · unfold FA_bits; rw [S.2.1.1.i7]
  · show FM_bits _ _ = _
    unfold FM_bits; rw [mp_20, mi_13]
    rw [show upd X 20 0 13 = X 13 from rfl, S.2.2.1.2.2.2.1]
theorem p_pulled (S : ST Z n wd B h) : OPQ Z n wd B h (FA_pulled h Z) (FM_pulled h (Z + 97)) := by
  obtain ⟨wb, tb, lm, hs, wr, tr, nd, nu, nb, X, A, S, hom⟩ := S
  refine OPQ_of (m := fun h => FM_pulled h (Z + 97)) (r := nI tb) (X' := upd X 20 0) (A' := A) S hom ?_ u20 (fun _ _ => rfl) ?_
  · unfold FA_pulled; rw [S.2.1.1.i8]
  · show FM_pulled _ _ = _
    unfold FM_pulled; rw [mp_20, mi_15]
    rw [show upd X 20 0 15 = X 15 from rfl, S.2.2.1.2.2.2.2.1]
theorem p_bit (S : ST Z n wd B h) {p : Int32} : OPQ Z n wd B h (FA_bit h Z p) (FM_bit h (Z + 97) p) := by
  obtain ⟨wb, tb, lm, hs, wr, tr, nd, nu, nb, X, A, S, hom⟩ := S
  have hwb := S.2.2.1.2.2.2.2.2.2.1
  have hx13 : X 13 = nI wb := S.2.2.1.2.2.2.1
  have hbt := S.2.2.1.2.2.2.2.2.2.2.1
  have key : (∃ j, j < wb ∧ p = nI j) ∨ ¬ ∃ j, j < wb ∧ p = nI j := Classical.em _
  have hr := e_range (p := p) (k := wb) (by omega)
  have hM : ∀ r : Int32, ((∃ j, j < wb ∧ p = nI j ∧ r = A 11 j) ∨ ((¬ ∃ j, j < wb ∧ p = nI j) ∧ r = (-1))) → FM_bit (om (Z + 97) X A h) (Z + 97) p = some (om (Z + 97) (upd X 20 0) A h, r) := by
    intro r hr
    unfold FM_bit
    rw [mp_20, mi_13, show upd X 20 0 13 = X 13 from rfl, hx13]
    have hin : (FM_isIn (om (Z + 97) (upd X 20 0) A h) p 0 (nI wb - 1) = some 0 ∧ ¬ ∃ t : Nat, t < wb ∧ p = nI t) ∨ (FM_isIn (om (Z + 97) (upd X 20 0) A h) p 0 (nI wb - 1) = some 1 ∧ ∃ t : Nat, t < wb ∧ p = nI t) := by
      by_cases z : wb = 0
      · left
        subst z
        refine ⟨?_, fun ⟨t, t1, _⟩ => by omega⟩
        unfold FM_isIn
        rw [jn_eq]
        try dsimp only
        rw [jn_eq]
        try dsimp only
        by_cases e1 : p < 0
        · rw [if_pos e1, gd_t (Or.inl rfl)]
        · obtain ⟨i, i1, i2⟩ := nI_of e1
          rw [if_neg e1, if_pos (by rw [show (nI 0 - 1 : Int32) = (-1) from rfl]; exact Int32.lt_of_lt_of_le (by decide) (Int32.not_lt.mp e1)), gd_t (Or.inl rfl)]
      · exact m_isIn (by omega) (by omega)
    rcases hin with ⟨a1, a2⟩ | ⟨a1, j, j1, j2⟩
    · rw [a1, Option.bind_some, jn_eq]
      try dsimp only
      rw [if_pos rfl]
      rcases hr with ⟨j, j1, j2, -⟩ | ⟨-, r2⟩
      · exact absurd ⟨j, j1, j2⟩ a2
      · rw [r2]
    · rw [a1, Option.bind_some, jn_eq]
      try dsimp only
      subst j2
      rw [if_neg (by decide), mr_bt, ml_bt (by omega)]
      rcases hr with ⟨i, i1, i2, i3⟩ | ⟨a2, -⟩
      · rw [nI_eq (by omega) (by omega)] at i2
        subst i2
        obtain ⟨b, b1, b2⟩ := (hbt j j1).2
        rw [i3, b2]
        by_cases z : b = 0
        · subst z; rw [if_pos nI_0]; rfl
        · have : b = 1 := by omega
          subst this; rw [if_neg (by decide)]; rfl
      · exact absurd ⟨j, j1, rfl⟩ a2
  rcases key with ⟨j, j1, rfl⟩ | key
  · refine OPQ_of (m := fun h => FM_bit h (Z + 97) (nI j)) (r := A 11 j) (X' := upd X 20 0) (A' := A) S hom ?_ u20 (fun _ _ => rfl) (hM _ (Or.inl ⟨j, j1, rfl, rfl⟩))
    unfold FA_bit
    rw [jn_eq]
    try dsimp only
    rw [jn_eq]
    try dsimp only
    rw [if_neg (hr.mpr ⟨j, j1, rfl⟩).1, S.2.1.1.i7, if_neg (hr.mpr ⟨j, j1, rfl⟩).2, S.2.1.1.r6, S.2.1.1.lw (by omega), (hbt j j1).1]
  · refine OPQ_of (m := fun h => FM_bit h (Z + 97) p) (r := (-1)) (X' := upd X 20 0) (A' := A) S hom ?_ u20 (fun _ _ => rfl) (hM _ (Or.inr ⟨key, rfl⟩))
    unfold FA_bit
    rw [jn_eq]
    try dsimp only
    rw [jn_eq]
    try dsimp only
    by_cases e1 : p < 0
    · rw [if_pos e1]
    · rw [if_neg e1, S.2.1.1.i7]
      by_cases e2 : nI wb ≤ p
      · rw [if_pos e2]
      · exact absurd (hr.mp ⟨e1, e2⟩) key
end BITS
