/-! ===== the law's small methods ===== -/
section ZN
variable {d : Nat} {mm : xM} {Q : xQ} {T : xT} {pc : Nat} {L : xL} {r : List Value} {len r1 r2 : Nat} {off : Int} {a b : Nat}
theorem zn_lt (h : x_at mm.2.2.2.2 pc = some (.if_icmp .lt off, len, r1, r2)) (ha : a < 2147483648) (hb : b < 2147483648) (kt : a < b → Zx d mm Q r1 L r T) (kf : b ≤ a → Zx d mm Q (pc + len) L r T) : Zx d mm Q pc L (.int (nI b) :: .int (nI a) :: r) T := fun g hg => n_ilt h ha hb (fun z => kt z g hg) (fun z => kf z g hg)
theorem zn_ge (h : x_at mm.2.2.2.2 pc = some (.if_icmp .ge off, len, r1, r2)) (ha : a < 2147483648) (hb : b < 2147483648) (kt : b ≤ a → Zx d mm Q r1 L r T) (kf : a < b → Zx d mm Q (pc + len) L r T) : Zx d mm Q pc L (.int (nI b) :: .int (nI a) :: r) T := fun g hg => n_ige h ha hb (fun z => kt z g hg) (fun z => kf z g hg)
theorem zn_gt (h : x_at mm.2.2.2.2 pc = some (.if_icmp .gt off, len, r1, r2)) (ha : a < 2147483648) (hb : b < 2147483648) (kt : b < a → Zx d mm Q r1 L r T) (kf : a ≤ b → Zx d mm Q (pc + len) L r T) : Zx d mm Q pc L (.int (nI b) :: .int (nI a) :: r) T := fun g hg => n_igt h ha hb (fun z => kt z g hg) (fun z => kf z g hg)
theorem zn_le (h : x_at mm.2.2.2.2 pc = some (.if_icmp .le off, len, r1, r2)) (ha : a < 2147483648) (hb : b < 2147483648) (kt : a ≤ b → Zx d mm Q r1 L r T) (kf : b < a → Zx d mm Q (pc + len) L r T) : Zx d mm Q pc L (.int (nI b) :: .int (nI a) :: r) T := fun g hg => n_ile h ha hb (fun z => kt z g hg) (fun z => kf z g hg)
theorem zn_eq (h : x_at mm.2.2.2.2 pc = some (.if_icmp .eq off, len, r1, r2)) (ha : a < 2147483648) (hb : b < 2147483648) (kt : a = b → Zx d mm Q r1 L r T) (kf : ¬ a = b → Zx d mm Q (pc + len) L r T) : Zx d mm Q pc L (.int (nI b) :: .int (nI a) :: r) T := fun g hg => n_ieq h ha hb (fun z => kt z g hg) (fun z => kf z g hg)
theorem zn_ne (h : x_at mm.2.2.2.2 pc = some (.if_icmp .ne off, len, r1, r2)) (ha : a < 2147483648) (hb : b < 2147483648) (kt : ¬ a = b → Zx d mm Q r1 L r T) (kf : a = b → Zx d mm Q (pc + len) L r T) : Zx d mm Q pc L (.int (nI b) :: .int (nI a) :: r) T := fun g hg => n_ine h ha hb (fun z => kt z g hg) (fun z => kf z g hg)
end ZN
/-- a number drawn from another -/
def lo (v : Int32) (n : Nat) : Nat := iN (v &&& 2147483647) % n
theorem lo_lt {v : Int32} {n : Nat} (h : 0 < n) : lo v n < n := Nat.mod_lt _ h
theorem lo_31 (v : Int32) : iN (v &&& 2147483647) < 2 ^ 31 := by
  unfold iN
  rw [Int32.toUInt32_and, UInt32.toNat_and]
  exact Nat.lt_of_le_of_lt Nat.and_le_right (by decide)
set_option maxHeartbeats 4000000 in
theorem l_low (d : Nat) (T : xT) (v : Int32) (n : Nat) (Q : xQ) (hk : tOk T) (hn : 0 < n) (hn2 : n < 2 ^ 31) (k : ∀ g, SG g T → Q (some (.int (nI (lo v n)))) g) : ∀ g, SG g T → Cx (d + 5) i_Law_low [.int v, .int (nI n)] g Q := by
  refine z_cl (L0 := [some (.int v), some (.int (nI n))]) rfl rfl rfl rfl ?_
  refine z_run 40 hk rfl ?_
  rw [show (v &&& 2147483647) = nI (iN (v &&& 2147483647)) from (nI_iN _).symm]
  refine z_remN rfl hn (lo_31 v) hn2 ?_
  exact z_iret rfl rfl k
theorem x_tb_div (m i : Nat) : m / 2 ^ i % 2 = if m.testBit i = true then 1 else 0 := by
  rw [Nat.testBit_eq_decide_div_mod_eq]
  have : m / 2 ^ i % 2 < 2 := Nat.mod_lt _ (by omega)
  split
  · rename_i h; exact of_decide_eq_true h
  · rename_i h
    have : ¬ m / 2 ^ i % 2 = 1 := fun z => h (decide_eq_true z)
    omega
set_option maxHeartbeats 4000000 in
theorem l_ones (d : Nat) (T : xT) (m : Nat) (Q : xQ) (hk : tOk T) (hm : m < 2 ^ 31) (k : ∀ g, SG g T → Q (some (.int (nI (x_cnt (fun i => m.testBit i) 16)))) g) : ∀ g, SG g T → Cx (d + 5) i_Law_ones [.int (nI m)] g Q := by
  refine z_cl (L0 := [some (.int (nI m)), none, none]) rfl rfl rfl rfl ?_
  refine z_to 4 40 hk rfl ?_
  have loop : ∀ i, i ≤ 16 → Zx (d + 4) m_Law_ones Q 4 [some (.int (nI m)), some (.int (nI (x_cnt (fun i => m.testBit i) i))), some (.int (nI i))] [] T := by
    refine r_for ?_ ?_
    · refine z_run 40 hk rfl ?_
      refine zn_ge rfl (by omega) (by omega) (fun _ => ?_) (fun z => absurd z (by omega))
      refine z_run 40 hk rfl ?_
      exact z_iret rfl rfl k
    · intro i hi ih
      refine z_run 40 hk rfl ?_
      refine zn_ge rfl (by omega) (by omega) (fun z => absurd z (by omega)) (fun _ => ?_)
      refine z_to 4 40 hk rfl ?_
      have e1 : nI (x_cnt (fun i => m.testBit i) i) + ((nI m >>> (nI i &&& 31)) &&& nI 1) = nI (x_cnt (fun i => m.testBit i) (i + 1)) := by
        rw [x_sh _ rfl hm (by omega), x_tb_div, nI_add]
        rfl
      have e2 : nI i + nI 1 = nI (i + 1) := nI_add _ _
      show Zx (d + 4) m_Law_ones Q 4 [some (.int (nI m)), some (.int (nI (x_cnt (fun i => m.testBit i) i) + ((nI m >>> (nI i &&& 31)) &&& nI 1))), some (.int (nI i + nI 1))] [] T
      rw [e1, e2]
      exact ih
  exact loop 0 (by omega)
/-! what is counted -/
section QC
variable (T : xT)
theorem qc0 : qCount T (iN (nI 0)) = nI (vph (tV T)) := rfl
theorem qc1 : qCount T (iN (nI 1)) = nI (vc (tV T)) := rfl
theorem qc2 : qCount T (iN (nI 2)) = nI (vn (tV T)) := rfl
theorem qc3 : qCount T (iN (nI 3)) = nI (x_enc (vin (tV T)) (vn (tV T))) := rfl
theorem qc4 : qCount T (iN (nI 4)) = vrd (tV T) := rfl
theorem qc5 : qCount T (iN (nI 5)) = nI (vbt (tV T)) := rfl
theorem qc6 : qCount T (iN (nI 6)) = x_sm (vss (tV T)) (vn (tV T)) := rfl
theorem qc7 : qCount T (iN (nI 7)) = x_sm (vbu (tV T)) (vn (tV T)) := rfl
theorem qc8 : qCount T (iN (nI 8)) = nI (vn (tV T)) - nI (x_cnt (vin (tV T)) (vn (tV T))) := rfl
theorem qc9 : qCount T (iN (nI 9)) = vlo (tV T) := rfl
theorem qc10 : qCount T (iN (nI 10)) = x_sm (vwa (tV T)) (vn (tV T)) := rfl
theorem qc12 : qCount T (iN (nI 12)) = if x_cnt (vin (tV T)) (vn (tV T)) = 1 then nI (vFirst (tV T)) else -1000004 := rfl
theorem qc13 : qCount T (iN (nI 13)) = nI (vR (tV T)).1 := rfl
theorem qc14 : qCount T (iN (nI 14)) = nI (tK T) := rfl
theorem qc15 : qCount T (iN (nI 15)) = nI (tL T) := rfl
theorem qc16 : qCount T (iN (nI 16)) = vtg (tV T) := rfl
theorem qc20 : qCount T (iN (nI 20)) = nI (vfw (tV T)) := rfl
end QC
theorem qCount_V {T T' : xT} (h : tV T = tV T') {w : Nat} (h14 : ¬ w = 14) (h15 : ¬ w = 15) : qCount T w = qCount T' w := by
  unfold qCount
  rw [h, if_neg h14, if_neg h15, if_neg h14, if_neg h15]
