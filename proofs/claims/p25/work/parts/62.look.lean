/-! ===== the law's look at an object ===== -/
def lfg (F : Nat → Int64 → Int64) : Nat → Int64 → Int64
  | 0, h => h
  | k + 1, h => F k (lfg F k h)
theorem lfg_congr {F G : Nat → Int64 → Int64} : ∀ n h, (∀ k, k < n → ∀ x, F k x = G k x) → lfg F n h = lfg G n h
  | 0, _, _ => rfl
  | n + 1, h, e => by
    show F n (lfg F n h) = G n (lfg G n h)
    rw [lfg_congr n h (fun k hk => e k (by omega)), e n (by omega)]
def lk1 (T : xT) : Int64 := lfg (fun k h => 31 * h + (qCount T (iN (nI k))).toInt64) 14 449
def lk2 (T : xT) : Int64 := 31 * (31 * lk1 T + (qCount T (iN (nI 16))).toInt64) + (qCount T (iN (nI 20))).toInt64
def lk3 (V : xV) (h : Int64) (n : Nat) : Int64 := lfg (fun c h => 31 * (31 * (31 * h + (qChair V (nI c) (nI 0)).toInt64) + (qChair V (nI c) (nI 1)).toInt64) + (qChair V (nI c) (nI 2)).toInt64) n h
def lk4 (V : xV) (p : Nat) (h : Int64) (n : Nat) : Int64 := lfg (fun k h => 31 * h + (qPlayer V (nI p) (nI k)).toInt64) n h
def lk5 (V : xV) (h : Int64) (n : Nat) : Int64 := lfg (fun p h => lk4 V p h 9) n h
def lk6 (V : xV) (h : Int64) (n : Nat) : Int64 := lfg (fun k h => 31 * h + (qBell V (nI k / nI 5) (nI k - nI k / nI 5 * nI 5)).toInt64) n h
def lk (T : xT) : Int64 := lk6 (tV T) (lk5 (tV T) (lk3 (tV T) (lk2 T) (vc (tV T))) (vn (tV T))) (5 * (vR (tV T)).1)
theorem lk_V {T T' : xT} (h : tV T = tV T') : lk T = lk T' := by
  have e1 : lk1 T = lk1 T' := lfg_congr 14 449 (fun k hk x => by
    rw [qCount_V h (by rw [iN_nI (by omega)]; omega) (by rw [iN_nI (by omega)]; omega)])
  unfold lk lk2
  rw [e1, h, qCount_V (T := T) (T' := T') h (w := iN (nI 16)) (by decide) (by decide), qCount_V (T := T) (T' := T') h (w := iN (nI 20)) (by decide) (by decide)]
set_option maxHeartbeats 16000000 in
theorem l_look (d : Nat) (T : xT) (Q : xQ) (hk : tOk T) (hR : (vR (tV T)).1 ≤ 12) (k : ∀ g, SG g T → Q (some (.long (lk T))) g) : ∀ g, SG g T → Cx (d + 5) i_Law_look [.ref 1] g Q := by
  have hc : vc (tV T) ≤ 16 := hk.1.1.2.2.2.2.1
  have hn : vn (tV T) ≤ 12 := hk.1.1.2.2.2.2.2
  refine z_cl (L0 := [some (.ref 1), none, none, none, none]) rfl rfl rfl rfl ?_
  refine z_to 6 40 hk rfl ?_
  have end6 : ∀ h i4, ∀ i, i ≤ 5 * (vR (tV T)).1 → lk T = lk6 (tV T) h (5 * (vR (tV T)).1) → Zx (d + 4) m_Law_look Q 162 [some (.ref 1), some (.long (lk6 (tV T) h i)), none, some (.int (nI i)), i4] [] T := by
    intro h i4
    refine r_for ?_ ?_
    · intro he
      refine z_run 40 hk rfl ?_
      rw [qc13, show nI 5 * nI (vR (tV T)).1 = nI (5 * (vR (tV T)).1) from pk_mul _ _]
      refine zn_ge rfl (by omega) (by omega) (fun _ => ?_) (fun z => absurd z (by omega))
      refine z_run 40 hk rfl ?_
      rw [he] at k
      exact z_lret rfl rfl k
    · intro i hi ih he
      refine z_run 40 hk rfl ?_
      rw [qc13, show nI 5 * nI (vR (tV T)).1 = nI (5 * (vR (tV T)).1) from pk_mul _ _]
      refine zn_ge rfl (by omega) (by omega) (fun z => absurd z (by omega)) (fun _ => ?_)
      refine z_run 40 hk rfl ?_
      refine z_div rfl (by decide) ?_
      refine z_run 40 hk rfl ?_
      refine z_rem rfl (by decide) ?_
      refine z_to 162 40 hk rfl ?_
      have e2 : nI i + nI 1 = nI (i + 1) := nI_add _ _
      have := ih he
      rw [← e2] at this
      exact this
  have end5 : ∀ h, ∀ i, i ≤ vn (tV T) → lk T = lk6 (tV T) (lk5 (tV T) h (vn (tV T))) (5 * (vR (tV T)).1) → ∀ i4, Zx (d + 4) m_Law_look Q 114 [some (.ref 1), some (.long (lk5 (tV T) h i)), none, some (.int (nI i)), i4] [] T := by
    intro h
    refine r_for ?_ ?_
    · intro he i4
      refine z_run 40 hk rfl ?_
      rw [qc2]
      refine zn_ge rfl (by omega) (by omega) (fun _ => ?_) (fun z => absurd z (by omega))
      refine z_to 162 40 hk rfl ?_
      exact end6 (lk5 (tV T) h (vn (tV T))) i4 0 (Nat.zero_le _) he
    · intro i hi ih he i4
      refine z_run 40 hk rfl ?_
      rw [qc2]
      refine zn_ge rfl (by omega) (by omega) (fun z => absurd z (by omega)) (fun _ => ?_)
      refine z_to 126 40 hk rfl ?_
      have inner : ∀ j, j ≤ 9 → Zx (d + 4) m_Law_look Q 126 [some (.ref 1), some (.long (lk4 (tV T) i (lk5 (tV T) h i) j)), none, some (.int (nI i)), some (.int (nI j))] [] T := by
        refine r_for ?_ ?_
        · refine z_run 40 hk rfl ?_
          refine zn_ge rfl (by omega) (by omega) (fun _ => ?_) (fun z => absurd z (by omega))
          refine z_to 114 40 hk rfl ?_
          have e2 : nI i + nI 1 = nI (i + 1) := nI_add _ _
          have := ih he (some (.int (nI 9)))
          rw [← e2] at this
          exact this
        · intro j hj ih2
          refine z_run 40 hk rfl ?_
          refine zn_ge rfl (by omega) (by omega) (fun z => absurd z (by omega)) (fun _ => ?_)
          refine z_to 126 40 hk rfl ?_
          have e2 : nI j + nI 1 = nI (j + 1) := nI_add _ _
          rw [← e2] at ih2
          exact ih2
      exact inner 0 (Nat.zero_le _)
  have end3 : ∀ h, ∀ i, i ≤ vc (tV T) → lk T = lk6 (tV T) (lk5 (tV T) (lk3 (tV T) h (vc (tV T))) (vn (tV T))) (5 * (vR (tV T)).1) → Zx (d + 4) m_Law_look Q 59 [some (.ref 1), some (.long (lk3 (tV T) h i)), none, some (.int (nI i)), none] [] T := by
    intro h
    refine r_for ?_ ?_
    · intro he
      refine z_run 40 hk rfl ?_
      rw [qc1]
      refine zn_ge rfl (by omega) (by omega) (fun _ => ?_) (fun z => absurd z (by omega))
      refine z_to 114 40 hk rfl ?_
      exact end5 (lk3 (tV T) h (vc (tV T))) 0 (Nat.zero_le _) he none
    · intro i hi ih he
      refine z_run 40 hk rfl ?_
      rw [qc1]
      refine zn_ge rfl (by omega) (by omega) (fun z => absurd z (by omega)) (fun _ => ?_)
      refine z_to 59 60 hk rfl ?_
      have e2 : nI i + nI 1 = nI (i + 1) := nI_add _ _
      have := ih he
      rw [← e2] at this
      exact this
  have end1 : ∀ i, i ≤ 14 → Zx (d + 4) m_Law_look Q 6 [some (.ref 1), some (.long (lfg (fun k h => 31 * h + (qCount T (iN (nI k))).toInt64) i 449)), none, some (.int (nI i)), none] [] T := by
    refine r_for ?_ ?_
    · refine z_run 40 hk rfl ?_
      refine zn_ge rfl (by omega) (by omega) (fun _ => ?_) (fun z => absurd z (by omega))
      refine z_to 59 60 hk rfl ?_
      exact end3 (lk2 T) 0 (Nat.zero_le _) rfl
    · intro i hi ih
      refine z_run 40 hk rfl ?_
      refine zn_ge rfl (by omega) (by omega) (fun z => absurd z (by omega)) (fun _ => ?_)
      refine z_to 6 40 hk rfl ?_
      have e2 : nI i + nI 1 = nI (i + 1) := nI_add _ _
      rw [← e2] at ih
      exact ih
  exact end1 0 (Nat.zero_le _)
