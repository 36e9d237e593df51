/-! the class's step of a COUNTED tree, whole -/
def hvIf (lim : Int32) (m : Nat) (T : CGO) : CGO := if nI (T.1 0) < lim then T else hvT m T.1 T.2.1 T.2.2
def hvUp (lim : Int32) (T : CGO) (hv : Int32) : Int32 := if nI (T.1 0) < lim then hv else hv + 1
theorem CI.hvd {n B m : Nat} {T : CGO} (lim : Int32) (h : CI n B m T.1 T.2.1 T.2.2) : CI n B m (hvIf lim m T).1 (hvIf lim m T).2.1 (hvIf lim m T).2.2 := by
  unfold hvIf
  split
  · exact h
  · exact h.halve
section HA
variable {n P a : Nat} {fm hv es pz : Int32} {cn sg pa fs sn lf pc ps pf : Nat → Int32} {h : Hp} {m B : Nat} {c g o : Nat → Nat}
theorem e_halve (hP : P + 3 < a) (hn : n ≤ 64) (hC : CI n B m c g o) (hB : B < 2 ^ 28) (hT : CT n m c g o es cn sg pa fs sn lf) :
    ∃ (es' : Int32) (cn' sg' pa' fs' sn' lf' pc' ps' pf' : Nat → Int32) (pz' : Int32), FT_halve (ov n P a fm (nI (2 * m + 1)) es hv cn sg pa fs sn lf (op P (n + 1) pc ps pf pz h)) a = some (ov n P a fm (nI (2 * m + 1)) es' (hv + 1) cn' sg' pa' fs' sn' lf' (op P (n + 1) pc' ps' pf' pz' h)) ∧ CT n m (hvT m c g o).1 (hvT m c g o).2.1 (hvT m c g o).2.2 es' cn' sg' pa' fs' sn' lf' := by
  obtain ⟨H0, hle, hN⟩ := HV_init hC
  have hm := hC.m_le
  have hG := hC.2.1
  have hPI := hC.1
  have hB0 := hC.2.2.2
  obtain ⟨t1, t2, t3⟩ := hT
  obtain ⟨pc1, ps1, pf1, r1, r2⟩ := e_gather (n := n) (P := P) (a := a) (fm := fm) (es := es) (hv := hv) (pz := pz) (cn := cn) (sg := sg) (pa := pa) (fs := fs) (sn := sn) (lf := lf) (pc := pc) (ps := ps) (pf := pf) (h := h) (m := m) (c := c) (g := g) hP hn hm (fun x hx => ⟨(t1 x hx).1, (t1 x hx).2.1, by have := hPI.bd hx; omega, by have := hG.lt hx; omega⟩) (by omega)
  rw [hN] at r1 r2
  have hp0 : HPi m m (hvC c g m) (hvG g m) o pc1 ps1 pf1 := fun k hk => ⟨(r2 k (by omega)).1, (r2 k (by omega)).2.1, fun i i1 i2 => absurd i2 (by omega), fun _ => (r2 k (by omega)).2.2⟩
  have ht0 : HTr n m m (HasS m g) (hvC c g m) (hvG g m) o es cn sg pa fs sn lf := ⟨fun x x1 x2 => absurd x2 (by omega), t2, t3⟩
  obtain ⟨es2, cn2, sg2, pa2, fs2, sn2, lf2, pc2, ps2, pf2, q1, q2, q3⟩ := e_halve_loop (n := n) (P := P) (a := a) (fm := fm) (hv := hv) (h := h) (K := fun (h4 : Hp) => gd (isO h4 a 3 = true) ((FT_settle h4 a 0 0).bind (fun r7 => gI r7 a 3 11 (fun x8 => pF r7 a 3 11 (.int (x8 + 1)) (fun h9 => some h9))))) hP hn hm (show sm (m + 1) (hvC c g m) < 2 ^ 28 by omega) m fu _ _ _ es cn sg pa fs sn lf pc1 ps1 pf1 (Nat.le_refl _) (by show m < 100000; omega) H0 hp0 ht0
  have HF := hvL_ok m _ _ _ (Nat.le_refl _) H0
  unfold FT_halve
  rw [gd_t o_ov, r1, Option.bind_some, i_sz, jn_eq]
  try dsimp only
  rw [q1]
  try dsimp only
  unfold hvT
  generalize hvL m (hvC c g m) (hvG g m) o = T at q2 q3 HF
  obtain ⟨v1, v2, v3, v4, v5, v6, v7, v8, v9, v10, v11⟩ := HF
  obtain ⟨p1, p2, p3, p4⟩ := q2 0 (Nat.le_refl _)
  have gb : T.2.1 0 < n + 2 := by
    by_cases e : 0 = (if 0 = m then m else 2 * m)
    · have := v6.1; rw [← e] at this; omega
    · exact (v7 0 (Or.inl (Nat.le_refl _)) e).2.1
  have A : FA n (ownW 0 m T.2.2) (T.2.1 0) 0 (pf2 0) (if pf2 0 = (-1) then (-1) else pf2 0 + 1) := by
    refine ⟨fun i hi => ?_, fun e => ?_, fun e => ?_, gb⟩
    · have := p3 i hi.1 hi.2.1 hi.2.2
      have := hi.2.1
      rw [p3 i hi.1 hi.2.1 hi.2.2, if_neg (m1_nI (by omega))]
      exact ⟨rfl, nI_1 _, by omega⟩
    · rw [p4 e]; exact ⟨rfl, if_pos rfl⟩
    · exact (v5 0 (Or.inl (Nat.le_refl _))).mp e
  have ok : okF n (2 * m + 1) (ps2 0) (pf2 0) (if pf2 0 = (-1) then (-1) else pf2 0 + 1) := by rw [p2]; exact A.ok (fun i hi => hi.2.1)
  have hs0 := e_settle (k := 0) (x := 0) (z := 1) (N := 2 * m + 1) (M := n + 1) (fm := fm) (es := es2) (hv := hv) (cn := cn2) (sg := sg2) (pa := pa2) (fs := fs2) (sn := sn2) (lf := lf2) (pc := pc2) (ps := ps2) (pf := pf2) (h := h) hP hn (by omega) (by omega) (by omega) (by omega) (by omega) ok
  rw [gd_t o_ov, show FT_settle (ov n P a fm (nI (2 * m + 1)) es2 hv cn2 sg2 pa2 fs2 sn2 lf2 (op P (n + 1) pc2 ps2 pf2 (nI 1) h)) a 0 0 = _ from hs0, Option.bind_some, i_hv, p_hv]
  refine ⟨_, _, _, _, _, _, _, _, _, _, _, rfl, ?_⟩
  rw [p1, p2]
  obtain ⟨s1, s2, s3⟩ := q3
  have toLC : ∀ {es : Int32} {cn sg pa fs sn lf : Nat → Int32} {x : Nat}, HL (ownW 0 m T.2.2) T.1 T.2.1 es cn sg pa fs sn lf x → LC m T.1 T.2.1 T.2.2 es cn sg pa fs sn lf x := fun hh => ⟨hh.1, hh.2.1, fun j hj e => hh.2.2.1 j ⟨Nat.zero_le _, hj, e⟩, hh.2.2.2⟩
  refine ⟨fun x hx => toLC ?_, ?_, fun s hs hns => ?_⟩
  · by_cases x0 : x = 0
    · subst x0
      exact HL_self hn A
    · exact HL_other hn A x0 (fun i q q2 => x0 (q.2.2.symm.trans q2.2.2)) (fun e => Classical.byContradiction fun q => x0 (v8 x 0 (Or.inr (by omega)) (Or.inl (Nat.le_refl _)) e q)) (s1 x (by omega) hx)
  · rcases A.xpa hn (pa := pa2) 0 with ⟨i, -, q, -⟩ | ⟨-, q⟩
    · omega
    · rw [q]; exact s2
  · rcases A.xlf hn (lf := lf2) s with ⟨q, -⟩ | ⟨-, q⟩
    · exact absurd ⟨0, by omega, q⟩ hns
    · rw [q]
      refine s3 s hs (fun hS => hns ?_)
      obtain ⟨x, hx, e⟩ := (v9 s).mpr hS
      exact ⟨x, by unfold Vs at hx; omega, e⟩
theorem e_stepBy_known {p s : Nat} {lim : Int32} (hP : P + 3 < a) (hn : n ≤ 64) (hC : CI n B m c g o) (hB : B < 2 ^ 27) (hT : CT n m c g o es cn sg pa fs sn lf) (hp : p < 2 * m + 1) (hg : g p = s + 2) :
    ∃ (es' : Int32) (cn' sg' pa' fs' sn' lf' pc' ps' pf' : Nat → Int32) (pz' : Int32), FT_stepBy (ov n P a 0 (nI (2 * m + 1)) es hv cn sg pa fs sn lf (op P (n + 1) pc ps pf pz h)) a (nI s) lim = some (ov n P a 0 (nI (2 * m + 1)) es' (hvUp lim (stW (2 * m + 1) c g o p) hv) cn' sg' pa' fs' sn' lf' (op P (n + 1) pc' ps' pf' pz' h)) ∧ CT n m (hvIf lim m (stW (2 * m + 1) c g o p)).1 (hvIf lim m (stW (2 * m + 1) c g o p)).2.1 (hvIf lim m (stW (2 * m + 1) c g o p)).2.2 es' cn' sg' pa' fs' sn' lf' := by
  have hs : s < n := by have := hC.2.1.lt hp; omega
  have hm := hC.m_le
  have hB0 := hC.2.2.2
  have C1 := hC.step (f := 2 * m + 1) hp hg hp
  have el : ¬ lf s = (-1) := by rw [(hT.1 p hp).2.2.2.2.2 s hg]; exact m1_nI (by omega)
  obtain ⟨es1, cn1, sg1, pa1, fs1, sn1, lf1, r1, r2⟩ := e_sc_known (P := P) (a := a) (fm := 0) (hv := hv) (h := op P (n + 1) pc ps pf pz h) hn hm hT hC.2.1 hC.1 hp hg (by omega)
  unfold FT_stepBy
  rw [i_fm, if_neg (by decide), gd_t o_ov, e_hasLeafOf hs hn, Option.bind_some, if_neg el, jn_eq]
  try dsimp only
  rw [if_neg (by decide), gd_t o_ov, r1, Option.bind_some, show (0 : Int32) = nI 0 from rfl, q_cn (by omega) (by omega) hn, jn_eq]
  try dsimp only
  generalize stW (2 * m + 1) c g o p = T at r2 C1
  have e0 : cn1 0 = nI (T.1 0) := (r2.1 0 (by omega)).1
  rw [e0]
  unfold hvIf hvUp
  by_cases e : nI (T.1 0) < lim
  · rw [if_pos e, if_pos e, if_pos e]
    exact ⟨_, _, _, _, _, _, _, _, _, _, _, rfl, r2⟩
  · rw [if_neg e, if_neg e, if_neg e, gd_t o_ov]
    obtain ⟨es3, cn3, sg3, pa3, fs3, sn3, lf3, pc3, ps3, pf3, pz3, q1, q2⟩ := e_halve (P := P) (a := a) (fm := nI 0) (hv := hv) (pz := pz) (pc := pc) (ps := ps) (pf := pf) (h := h) hP hn C1 (by omega) r2
    rw [show FT_halve (ov n P a (nI 0) (nI (2 * m + 1)) es1 hv cn1 sg1 pa1 fs1 sn1 lf1 (op P (n + 1) pc ps pf pz h)) a = _ from q1, Option.bind_some]
    exact ⟨_, _, _, _, _, _, _, _, _, _, _, rfl, q2⟩
theorem e_stepBy_new {s : Nat} {lim : Int32} (hP : P + 3 < a) (hn : n ≤ 64) (hC : CI n B m c g o) (hB : B < 2 ^ 27) (hT : CT n m c g o es cn sg pa fs sn lf) (hs : s < n) (hns : ¬ HasS m g s) :
    ∃ (es' : Int32) (cn' sg' pa' fs' sn' lf' pc' ps' pf' : Nat → Int32) (pz' : Int32), FT_stepBy (ov n P a 0 (nI (2 * m + 1)) es hv cn sg pa fs sn lf (op P (n + 1) pc ps pf pz h)) a (nI s) lim = some (ov n P a 0 (nI (2 * (m + 1) + 1)) es' (hvUp lim (nwT m c g o s) hv) cn' sg' pa' fs' sn' lf' (op P (n + 1) pc' ps' pf' pz' h)) ∧ CT n (m + 1) (hvIf lim (m + 1) (nwT m c g o s)).1 (hvIf lim (m + 1) (nwT m c g o s)).2.1 (hvIf lim (m + 1) (nwT m c g o s)).2.2 es' cn' sg' pa' fs' sn' lf' := by
  have hm := hC.m_lt hs hns
  have hB0 := hC.2.2.2
  have C1 := hC.new hs hns
  have el : lf s = (-1) := hT.2.2 s hs hns
  obtain ⟨es0, cn0, sg0, pa0, fs0, sn0, lf0, r3, r4⟩ := e_split (P := P) (a := a) (fm := 0) (hv := hv) (h := op P (n + 1) pc ps pf pz h) hn hm hC.2.1 hC.1.1 hs hns hT
  obtain ⟨es1, cn1, sg1, pa1, fs1, sn1, lf1, r1, r2⟩ := e_sc_new (P := P) (a := a) (fm := 0) (hv := hv) (h := op P (n + 1) pc ps pf pz h) hn hm r4 hC.2.1 hC.1 hs hns (by omega)
  unfold FT_stepBy
  rw [i_fm, if_neg (by decide), gd_t o_ov, e_hasLeafOf hs hn, Option.bind_some, if_pos el, jn_eq]
  try dsimp only
  rw [if_pos rfl, gd_t o_ov, r3, Option.bind_some, gd_t o_ov, r1, Option.bind_some, show (0 : Int32) = nI 0 from rfl, q_cn (by omega) (by omega) hn, jn_eq]
  try dsimp only
  generalize nwT m c g o s = T at r2 C1
  have e0 : cn1 0 = nI (T.1 0) := (r2.1 0 (by omega)).1
  rw [e0]
  unfold hvIf hvUp
  by_cases e : nI (T.1 0) < lim
  · rw [if_pos e, if_pos e, if_pos e]
    exact ⟨_, _, _, _, _, _, _, _, _, _, _, rfl, r2⟩
  · rw [if_neg e, if_neg e, if_neg e, gd_t o_ov]
    obtain ⟨es3, cn3, sg3, pa3, fs3, sn3, lf3, pc3, ps3, pf3, pz3, q1, q2⟩ := e_halve (P := P) (a := a) (fm := nI 0) (hv := hv) (pz := pz) (pc := pc) (ps := ps) (pf := pf) (h := h) hP hn C1 (by omega) r2
    rw [show FT_halve (ov n P a (nI 0) (nI (2 * (m + 1) + 1)) es1 hv cn1 sg1 pa1 fs1 sn1 lf1 (op P (n + 1) pc ps pf pz h)) a = _ from q1, Option.bind_some]
    exact ⟨_, _, _, _, _, _, _, _, _, _, _, rfl, q2⟩
end HA
