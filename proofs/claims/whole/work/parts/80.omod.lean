/-! THE MODEL, as one overlay: X its ints by field, A its rows 1 .. 15 by address -/
def mTy (i : Nat) : Nat := if i = 4 ∨ i = 10 ∨ i = 11 ∨ i = 15 then 1 else 0
def mLn (i : Nat) : Nat := if i ≤ 3 then 12 else if i = 4 then 4 else if i ≤ 7 then 1548 else if i = 8 then 768 else if i ≤ 10 then 1548 else if i = 11 then 1000 else if i ≤ 14 then 129 else 200
def mFl (M : Nat) (X : Nat → Int32) : List Value := [.int (X 0), .int (X 1), .int (X 2), .ref (M + 1), .ref (M + 2), .ref (M + 3), .ref (M + 4), .ref (M + 5), .ref (M + 6), .ref (M + 7), .ref (M + 8), .ref (M + 9), .ref (M + 10), .int (X 13), .ref (M + 11), .int (X 15), .int (X 16), .int (X 17), .int (X 18), .int (X 19), .int (X 20), .ref (M + 12), .ref (M + 13), .ref (M + 14), .ref (M + 15), .int (X 25)]
def om (M : Nat) (X : Nat → Int32) (A : Nat → Nat → Int32) (h : Hp) : Hp := fun q => if q = M then some (.inr (5, mFl M X)) else if M < q ∧ q ≤ M + 15 then some (.inl (mTy (q - M), mLn (q - M), .inl (A (q - M)))) else h q
def u2 (A : Nat → Nat → Int32) (i j : Nat) (v : Int32) : Nat → Nat → Int32 := fun k => if k = i then upd (A i) j v else A k
theorem u2_e {A : Nat → Nat → Int32} {i j : Nat} {v : Int32} : u2 A i j v i = upd (A i) j v := if_pos rfl
theorem u2_n {A : Nat → Nat → Int32} {i k j : Nat} {v : Int32} (h : k ≠ i) : u2 A i j v k = A k := if_neg h
section OM
variable {β : Type} {M : Nat} {X : Nat → Int32} {A : Nat → Nat → Int32} {h : Hp}
theorem om_0 : om M X A h M = some (.inr (5, mFl M X)) := if_pos rfl
theorem om_i {i : Nat} (h1 : 1 ≤ i) (h2 : i ≤ 15) : om M X A h (M + i) = some (.inl (mTy i, mLn i, .inl (A i))) := by
  unfold om
  rw [if_neg (by omega), if_pos (by omega), show M + i - M = i by omega]
theorem om_out {q : Nat} (hq : q < M ∨ M + 15 < q) : om M X A h q = h q := by
  unfold om
  rw [if_neg (by omega), if_neg (by omega)]
theorem om_up {i : Nat} {f : Nat → Int32} (h1 : 1 ≤ i) (h2 : i ≤ 15) : va_up (om M X A h) (M + i) (some (.inl (mTy i, mLn i, .inl f))) = om M X (fun k => if k = i then f else A k) h := by
  funext q
  by_cases e : q = M + i
  · subst e; rw [va_up_self, om_i h1 h2, if_pos rfl]
  · rw [va_up_ne _ _ e]
    unfold om
    by_cases e1 : q = M
    · rw [if_pos e1, if_pos e1]
    · rw [if_neg e1, if_neg e1]
      by_cases e2 : M < q ∧ q ≤ M + 15
      · rw [if_pos e2, if_pos e2]
        simp only [if_neg (show ¬ q - M = i by omega)]
      · rw [if_neg e2, if_neg e2]
theorem om_same (h0 : h M = some (.inr (5, mFl M X))) (h1 : ∀ i, 1 ≤ i → i ≤ 15 → h (M + i) = some (.inl (mTy i, mLn i, .inl (A i)))) : om M X A h = h := by
  funext q
  unfold om
  by_cases e1 : q = M
  · rw [if_pos e1, e1, h0]
  · rw [if_neg e1]
    by_cases e2 : M < q ∧ q ≤ M + 15
    · rw [if_pos e2]
      have := h1 (q - M) (by omega) (by omega)
      rw [show M + (q - M) = q by omega] at this
      rw [this]
    · rw [if_neg e2]
theorem om_upX {k : Nat} {v : Int32} {fl : List Value} (e : fl = mFl M (upd X k v)) : va_up (om M X A h) M (some (.inr (5, fl))) = om M (upd X k v) A h := by
  subst e
  funext q
  by_cases e : q = M
  · subst e; rw [va_up_self, om_0]
  · rw [va_up_ne _ _ e]; unfold om; rw [if_neg e, if_neg e]
theorem o_om : isO (om M X A h) M 5 = true := isO_at om_0
theorem mr_fo {K : Nat → Option β} : gR (om M X A h) M 5 3 K = K (M + 1) := gR_at om_0 rfl
theorem ml_fo {j : Nat} {K : Int32 → Option β} (hj : j < 12) : ldI (om M X A h) (M + 1) 0 (nI j) K = K (A 1 j) := ldI_at (om_i (by decide) (by decide)) hj (by decide)
theorem ms_fo {j : Nat} {v : Int32} {K : Hp → Option β} (hj : j < 12) : stI (om M X A h) (M + 1) 0 (nI j) v K = K (om M X (u2 A 1 j v) h) := by
  rw [stI_at (ti := 0) (m := 12) (om_i (by decide) (by decide)) hj (by decide)]
  exact congrArg K (om_up (i := 1) (by decide) (by decide))
theorem mr_ma {K : Nat → Option β} : gR (om M X A h) M 5 4 K = K (M + 2) := gR_at om_0 rfl
theorem ml_ma {j : Nat} {K : Int32 → Option β} (hj : j < 12) : ldI (om M X A h) (M + 2) 0 (nI j) K = K (A 2 j) := ldI_at (om_i (by decide) (by decide)) hj (by decide)
theorem ms_ma {j : Nat} {v : Int32} {K : Hp → Option β} (hj : j < 12) : stI (om M X A h) (M + 2) 0 (nI j) v K = K (om M X (u2 A 2 j v) h) := by
  rw [stI_at (ti := 0) (m := 12) (om_i (by decide) (by decide)) hj (by decide)]
  exact congrArg K (om_up (i := 2) (by decide) (by decide))
theorem mr_ha {K : Nat → Option β} : gR (om M X A h) M 5 5 K = K (M + 3) := gR_at om_0 rfl
theorem ml_ha {j : Nat} {K : Int32 → Option β} (hj : j < 12) : ldI (om M X A h) (M + 3) 0 (nI j) K = K (A 3 j) := ldI_at (om_i (by decide) (by decide)) hj (by decide)
theorem ms_ha {j : Nat} {v : Int32} {K : Hp → Option β} (hj : j < 12) : stI (om M X A h) (M + 3) 0 (nI j) v K = K (om M X (u2 A 3 j v) h) := by
  rw [stI_at (ti := 0) (m := 12) (om_i (by decide) (by decide)) hj (by decide)]
  exact congrArg K (om_up (i := 3) (by decide) (by decide))
theorem mr_hs {K : Nat → Option β} : gR (om M X A h) M 5 6 K = K (M + 4) := gR_at om_0 rfl
theorem ml_hs {j : Nat} {K : Int32 → Option β} (hj : j < 4) : ldI (om M X A h) (M + 4) 1 (nI j) K = K (A 4 j) := ldI_at (om_i (by decide) (by decide)) hj (by decide)
theorem ms_hs {j : Nat} {v : Int32} {K : Hp → Option β} (hj : j < 4) : stI (om M X A h) (M + 4) 1 (nI j) v K = K (om M X (u2 A 4 j v) h) := by
  rw [stI_at (ti := 1) (m := 4) (om_i (by decide) (by decide)) hj (by decide)]
  exact congrArg K (om_up (i := 4) (by decide) (by decide))
theorem mr_at {K : Nat → Option β} : gR (om M X A h) M 5 7 K = K (M + 5) := gR_at om_0 rfl
theorem ml_at {j : Nat} {K : Int32 → Option β} (hj : j < 1548) : ldI (om M X A h) (M + 5) 0 (nI j) K = K (A 5 j) := ldI_at (om_i (by decide) (by decide)) hj (by decide)
theorem ms_at {j : Nat} {v : Int32} {K : Hp → Option β} (hj : j < 1548) : stI (om M X A h) (M + 5) 0 (nI j) v K = K (om M X (u2 A 5 j v) h) := by
  rw [stI_at (ti := 0) (m := 1548) (om_i (by decide) (by decide)) hj (by decide)]
  exact congrArg K (om_up (i := 5) (by decide) (by decide))
theorem mr_cn {K : Nat → Option β} : gR (om M X A h) M 5 8 K = K (M + 6) := gR_at om_0 rfl
theorem ml_cn {j : Nat} {K : Int32 → Option β} (hj : j < 1548) : ldI (om M X A h) (M + 6) 0 (nI j) K = K (A 6 j) := ldI_at (om_i (by decide) (by decide)) hj (by decide)
theorem ms_cn {j : Nat} {v : Int32} {K : Hp → Option β} (hj : j < 1548) : stI (om M X A h) (M + 6) 0 (nI j) v K = K (om M X (u2 A 6 j v) h) := by
  rw [stI_at (ti := 0) (m := 1548) (om_i (by decide) (by decide)) hj (by decide)]
  exact congrArg K (om_up (i := 6) (by decide) (by decide))
theorem mr_sg {K : Nat → Option β} : gR (om M X A h) M 5 9 K = K (M + 7) := gR_at om_0 rfl
theorem ml_sg {j : Nat} {K : Int32 → Option β} (hj : j < 1548) : ldI (om M X A h) (M + 7) 0 (nI j) K = K (A 7 j) := ldI_at (om_i (by decide) (by decide)) hj (by decide)
theorem ms_sg {j : Nat} {v : Int32} {K : Hp → Option β} (hj : j < 1548) : stI (om M X A h) (M + 7) 0 (nI j) v K = K (om M X (u2 A 7 j v) h) := by
  rw [stI_at (ti := 0) (m := 1548) (om_i (by decide) (by decide)) hj (by decide)]
  exact congrArg K (om_up (i := 7) (by decide) (by decide))
theorem mr_ow {K : Nat → Option β} : gR (om M X A h) M 5 10 K = K (M + 8) := gR_at om_0 rfl
theorem ml_ow {j : Nat} {K : Int32 → Option β} (hj : j < 768) : ldI (om M X A h) (M + 8) 0 (nI j) K = K (A 8 j) := ldI_at (om_i (by decide) (by decide)) hj (by decide)
theorem ms_ow {j : Nat} {v : Int32} {K : Hp → Option β} (hj : j < 768) : stI (om M X A h) (M + 8) 0 (nI j) v K = K (om M X (u2 A 8 j v) h) := by
  rw [stI_at (ti := 0) (m := 768) (om_i (by decide) (by decide)) hj (by decide)]
  exact congrArg K (om_up (i := 8) (by decide) (by decide))
theorem mr_up {K : Nat → Option β} : gR (om M X A h) M 5 11 K = K (M + 9) := gR_at om_0 rfl
theorem ml_up {j : Nat} {K : Int32 → Option β} (hj : j < 1548) : ldI (om M X A h) (M + 9) 0 (nI j) K = K (A 9 j) := ldI_at (om_i (by decide) (by decide)) hj (by decide)
theorem ms_up {j : Nat} {v : Int32} {K : Hp → Option β} (hj : j < 1548) : stI (om M X A h) (M + 9) 0 (nI j) v K = K (om M X (u2 A 9 j v) h) := by
  rw [stI_at (ti := 0) (m := 1548) (om_i (by decide) (by decide)) hj (by decide)]
  exact congrArg K (om_up (i := 9) (by decide) (by decide))
theorem mr_se {K : Nat → Option β} : gR (om M X A h) M 5 12 K = K (M + 10) := gR_at om_0 rfl
theorem ml_se {j : Nat} {K : Int32 → Option β} (hj : j < 1548) : ldI (om M X A h) (M + 10) 1 (nI j) K = K (A 10 j) := ldI_at (om_i (by decide) (by decide)) hj (by decide)
theorem ms_se {j : Nat} {v : Int32} {K : Hp → Option β} (hj : j < 1548) : stI (om M X A h) (M + 10) 1 (nI j) v K = K (om M X (u2 A 10 j v) h) := by
  rw [stI_at (ti := 1) (m := 1548) (om_i (by decide) (by decide)) hj (by decide)]
  exact congrArg K (om_up (i := 10) (by decide) (by decide))
theorem mr_bt {K : Nat → Option β} : gR (om M X A h) M 5 14 K = K (M + 11) := gR_at om_0 rfl
theorem ml_bt {j : Nat} {K : Int32 → Option β} (hj : j < 1000) : ldI (om M X A h) (M + 11) 1 (nI j) K = K (A 11 j) := ldI_at (om_i (by decide) (by decide)) hj (by decide)
theorem ms_bt {j : Nat} {v : Int32} {K : Hp → Option β} (hj : j < 1000) : stI (om M X A h) (M + 11) 1 (nI j) v K = K (om M X (u2 A 11 j v) h) := by
  rw [stI_at (ti := 1) (m := 1000) (om_i (by decide) (by decide)) hj (by decide)]
  exact congrArg K (om_up (i := 11) (by decide) (by decide))
theorem mr_pi {K : Nat → Option β} : gR (om M X A h) M 5 21 K = K (M + 12) := gR_at om_0 rfl
theorem ml_pi {j : Nat} {K : Int32 → Option β} (hj : j < 129) : ldI (om M X A h) (M + 12) 0 (nI j) K = K (A 12 j) := ldI_at (om_i (by decide) (by decide)) hj (by decide)
theorem ms_pi {j : Nat} {v : Int32} {K : Hp → Option β} (hj : j < 129) : stI (om M X A h) (M + 12) 0 (nI j) v K = K (om M X (u2 A 12 j v) h) := by
  rw [stI_at (ti := 0) (m := 129) (om_i (by decide) (by decide)) hj (by decide)]
  exact congrArg K (om_up (i := 12) (by decide) (by decide))
theorem mr_nc {K : Nat → Option β} : gR (om M X A h) M 5 22 K = K (M + 13) := gR_at om_0 rfl
theorem ml_nc {j : Nat} {K : Int32 → Option β} (hj : j < 129) : ldI (om M X A h) (M + 13) 0 (nI j) K = K (A 13 j) := ldI_at (om_i (by decide) (by decide)) hj (by decide)
theorem ms_nc {j : Nat} {v : Int32} {K : Hp → Option β} (hj : j < 129) : stI (om M X A h) (M + 13) 0 (nI j) v K = K (om M X (u2 A 13 j v) h) := by
  rw [stI_at (ti := 0) (m := 129) (om_i (by decide) (by decide)) hj (by decide)]
  exact congrArg K (om_up (i := 13) (by decide) (by decide))
theorem mr_ns {K : Nat → Option β} : gR (om M X A h) M 5 23 K = K (M + 14) := gR_at om_0 rfl
theorem ml_ns {j : Nat} {K : Int32 → Option β} (hj : j < 129) : ldI (om M X A h) (M + 14) 0 (nI j) K = K (A 14 j) := ldI_at (om_i (by decide) (by decide)) hj (by decide)
theorem ms_ns {j : Nat} {v : Int32} {K : Hp → Option β} (hj : j < 129) : stI (om M X A h) (M + 14) 0 (nI j) v K = K (om M X (u2 A 14 j v) h) := by
  rw [stI_at (ti := 0) (m := 129) (om_i (by decide) (by decide)) hj (by decide)]
  exact congrArg K (om_up (i := 14) (by decide) (by decide))
theorem mr_bk {K : Nat → Option β} : gR (om M X A h) M 5 24 K = K (M + 15) := gR_at om_0 rfl
theorem ml_bk {j : Nat} {K : Int32 → Option β} (hj : j < 200) : ldI (om M X A h) (M + 15) 1 (nI j) K = K (A 15 j) := ldI_at (om_i (by decide) (by decide)) hj (by decide)
theorem ms_bk {j : Nat} {v : Int32} {K : Hp → Option β} (hj : j < 200) : stI (om M X A h) (M + 15) 1 (nI j) v K = K (om M X (u2 A 15 j v) h) := by
  rw [stI_at (ti := 1) (m := 200) (om_i (by decide) (by decide)) hj (by decide)]
  exact congrArg K (om_up (i := 15) (by decide) (by decide))
theorem mi_0 {K : Int32 → Option β} : gI (om M X A h) M 5 0 K = K (X 0) := gI_at om_0 rfl
theorem mp_0 {v : Int32} {K : Hp → Option β} : pF (om M X A h) M 5 0 (.int v) K = K (om M (upd X 0 v) A h) := by
  rw [pF_at om_0 (Nat.le_of_ble_eq_true rfl)]
  exact congrArg K (om_upX rfl)
theorem mi_1 {K : Int32 → Option β} : gI (om M X A h) M 5 1 K = K (X 1) := gI_at om_0 rfl
theorem mp_1 {v : Int32} {K : Hp → Option β} : pF (om M X A h) M 5 1 (.int v) K = K (om M (upd X 1 v) A h) := by
  rw [pF_at om_0 (Nat.le_of_ble_eq_true rfl)]
  exact congrArg K (om_upX rfl)
theorem mi_2 {K : Int32 → Option β} : gI (om M X A h) M 5 2 K = K (X 2) := gI_at om_0 rfl
theorem mp_2 {v : Int32} {K : Hp → Option β} : pF (om M X A h) M 5 2 (.int v) K = K (om M (upd X 2 v) A h) := by
  rw [pF_at om_0 (Nat.le_of_ble_eq_true rfl)]
  exact congrArg K (om_upX rfl)
theorem mi_13 {K : Int32 → Option β} : gI (om M X A h) M 5 13 K = K (X 13) := gI_at om_0 rfl
theorem mp_13 {v : Int32} {K : Hp → Option β} : pF (om M X A h) M 5 13 (.int v) K = K (om M (upd X 13 v) A h) := by
  rw [pF_at om_0 (Nat.le_of_ble_eq_true rfl)]
  exact congrArg K (om_upX rfl)
theorem mi_15 {K : Int32 → Option β} : gI (om M X A h) M 5 15 K = K (X 15) := gI_at om_0 rfl
theorem mp_15 {v : Int32} {K : Hp → Option β} : pF (om M X A h) M 5 15 (.int v) K = K (om M (upd X 15 v) A h) := by
  rw [pF_at om_0 (Nat.le_of_ble_eq_true rfl)]
  exact congrArg K (om_upX rfl)
theorem mi_16 {K : Int32 → Option β} : gI (om M X A h) M 5 16 K = K (X 16) := gI_at om_0 rfl
theorem mp_16 {v : Int32} {K : Hp → Option β} : pF (om M X A h) M 5 16 (.int v) K = K (om M (upd X 16 v) A h) := by
  rw [pF_at om_0 (Nat.le_of_ble_eq_true rfl)]
  exact congrArg K (om_upX rfl)
theorem mi_17 {K : Int32 → Option β} : gI (om M X A h) M 5 17 K = K (X 17) := gI_at om_0 rfl
theorem mp_17 {v : Int32} {K : Hp → Option β} : pF (om M X A h) M 5 17 (.int v) K = K (om M (upd X 17 v) A h) := by
  rw [pF_at om_0 (Nat.le_of_ble_eq_true rfl)]
  exact congrArg K (om_upX rfl)
theorem mi_18 {K : Int32 → Option β} : gI (om M X A h) M 5 18 K = K (X 18) := gI_at om_0 rfl
theorem mp_18 {v : Int32} {K : Hp → Option β} : pF (om M X A h) M 5 18 (.int v) K = K (om M (upd X 18 v) A h) := by
  rw [pF_at om_0 (Nat.le_of_ble_eq_true rfl)]
  exact congrArg K (om_upX rfl)
theorem mi_19 {K : Int32 → Option β} : gI (om M X A h) M 5 19 K = K (X 19) := gI_at om_0 rfl
theorem mp_19 {v : Int32} {K : Hp → Option β} : pF (om M X A h) M 5 19 (.int v) K = K (om M (upd X 19 v) A h) := by
  rw [pF_at om_0 (Nat.le_of_ble_eq_true rfl)]
  exact congrArg K (om_upX rfl)
theorem mi_20 {K : Int32 → Option β} : gI (om M X A h) M 5 20 K = K (X 20) := gI_at om_0 rfl
theorem mp_20 {v : Int32} {K : Hp → Option β} : pF (om M X A h) M 5 20 (.int v) K = K (om M (upd X 20 v) A h) := by
  rw [pF_at om_0 (Nat.le_of_ble_eq_true rfl)]
  exact congrArg K (om_upX rfl)
theorem mi_25 {K : Int32 → Option β} : gI (om M X A h) M 5 25 K = K (X 25) := gI_at om_0 rfl
theorem mp_25 {v : Int32} {K : Hp → Option β} : pF (om M X A h) M 5 25 (.int v) K = K (om M (upd X 25 v) A h) := by
  rw [pF_at om_0 (Nat.le_of_ble_eq_true rfl)]
  exact congrArg K (om_upX rfl)
end OM
