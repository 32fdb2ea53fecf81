/-! ===== words for the law's walks ===== -/
theorem k_lt {a b : Nat} (ha : a < 2147483648) (hb : b < 2147483648) : x_c .lt (nI a) (nI b) ↔ a < b := nI_ltI ha hb
theorem k_ge {a b : Nat} (ha : a < 2147483648) (hb : b < 2147483648) : x_c .ge (nI a) (nI b) ↔ b ≤ a := nI_leI hb ha
theorem k_gt {a b : Nat} (ha : a < 2147483648) (hb : b < 2147483648) : x_c .gt (nI a) (nI b) ↔ b < a := nI_ltI hb ha
theorem k_le {a b : Nat} (ha : a < 2147483648) (hb : b < 2147483648) : x_c .le (nI a) (nI b) ↔ a ≤ b := nI_leI ha hb
theorem k_eq {a b : Nat} (ha : a < 2147483648) (hb : b < 2147483648) : x_c .eq (nI a) (nI b) ↔ a = b := nI_eq ha hb
theorem k_ne {a b : Nat} (ha : a < 2147483648) (hb : b < 2147483648) : x_c .ne (nI a) (nI b) ↔ ¬ a = b := not_congr (nI_eq ha hb)
theorem k0_lt {a : Nat} (ha : a < 2147483648) : x_c .lt (nI a) 0 ↔ a < 0 := nI_ltI (b := 0) ha (by decide)
theorem k0_ge {a : Nat} (ha : a < 2147483648) : x_c .ge (nI a) 0 ↔ 0 ≤ a := nI_leI (a := 0) (by decide) ha
theorem k0_gt {a : Nat} (ha : a < 2147483648) : x_c .gt (nI a) 0 ↔ 0 < a := nI_ltI (a := 0) (by decide) ha
theorem k0_le {a : Nat} (ha : a < 2147483648) : x_c .le (nI a) 0 ↔ a ≤ 0 := nI_leI (b := 0) ha (by decide)
theorem k0_eq {a : Nat} (ha : a < 2147483648) : x_c .eq (nI a) 0 ↔ a = 0 := nI_eq (b := 0) ha (by decide)
theorem k0_ne {a : Nat} (ha : a < 2147483648) : x_c .ne (nI a) 0 ↔ ¬ a = 0 := not_congr (nI_eq (b := 0) ha (by decide))
theorem k_nn {a : Nat} (ha : a < 2147483648) {x : Int32} (hx : x < 0) : ¬ nI a = x := fun z => by rw [← z] at hx; exact nI_pos ha hx
theorem k_nn2 {a : Nat} (ha : a < 2147483648) {x : Int32} (hx : x < 0) : ¬ x = nI a := fun z => k_nn ha hx z.symm
theorem kx_same {x : Int32} : ¬ x_c .ne x x := fun z => z rfl
theorem kx_eq {x : Int32} : x_c .eq x x := rfl
theorem nI_or {x y : Nat} (hx : x < 4294967296) (hy : y < 4294967296) : nI x ||| nI y = nI (x ||| y) := by
  apply Int32.toBitVec_inj.mp
  apply BitVec.eq_of_toNat_eq
  rw [Int32.toBitVec_or, BitVec.toNat_or, pk_tn hx, pk_tn hy, pk_tn (Nat.or_lt_two_pow (n := 32) hx hy)]
theorem nI_and {x y : Nat} (hx : x < 4294967296) (hy : y < 4294967296) : nI x &&& nI y = nI (x &&& y) := by
  apply Int32.toBitVec_inj.mp
  apply BitVec.eq_of_toNat_eq
  rw [Int32.toBitVec_and, BitVec.toNat_and, pk_tn hx, pk_tn hy, pk_tn (Nat.lt_of_le_of_lt Nat.and_le_left hx)]
theorem sh31 : ∀ p, p < 31 → ((nI p &&& 31).toBitVec.smod 32).toNat = p := by decide
theorem enc_or {f : Nat → Bool} {p : Nat} (hp : p < 31) (hf : f p = true) : nI (x_enc f p) ||| (nI 1 <<< (nI p &&& 31)) = nI (x_enc f (p + 1)) := by
  have h1 : 2 ^ p < 4294967296 := Nat.lt_of_lt_of_le (Nat.pow_lt_pow_right (by omega) (show p < 32 by omega)) (by decide)
  have h2 : x_enc f p < 2 ^ p := (x_enc_ok f p).1
  rw [pk_shlN (n := 1) _ p (sh31 p hp) (by omega), Nat.one_mul, nI_or (by omega) h1]
  show _ = nI (x_enc f p ||| (if f p = true then 2 ^ p else 0))
  rw [if_pos hf]
theorem enc_no {f : Nat → Bool} {p : Nat} (hf : f p = false) : nI (x_enc f p) ||| nI 0 = nI (x_enc f (p + 1)) := by
  show _ = nI (x_enc f p ||| (if f p = true then 2 ^ p else 0))
  rw [hf, if_neg (by decide), Nat.or_zero]
  show nI (x_enc f p) ||| 0 = _
  rw [Int32.or_zero]
theorem enc_cnt {f : Nat → Bool} {n : Nat} (hn : n ≤ 16) : x_cnt (fun i => (x_enc f n).testBit i) 16 = x_cnt f n := by
  have h : ∀ i, (x_enc f n).testBit i = (decide (i < n) && f i) := (x_enc_ok f n).2
  have key : ∀ m, n + m = 16 → x_cnt (fun i => (x_enc f n).testBit i) 16 = x_cnt f n := by
    intro m hm
    rw [← hm, x_cnt_ext (n := n) (fun i hi => by rw [h i]; simp; omega) m]
    exact x_cnt_congr n (fun i hi => by rw [h i]; simp [hi])
  exact key (16 - n) (by omega)
theorem enc_31 {f : Nat → Bool} {n : Nat} (hn : n ≤ 16) : x_enc f n < 65536 := Nat.lt_of_lt_of_le (x_enc_ok f n).1 (Nat.pow_le_pow_right (by omega) hn)
/-- bit p of a set, as the law takes it -/
theorem enc_bit {f : Nat → Bool} {n p : Nat} (hn : n ≤ 16) (hp : p < 16) : ((nI (x_enc f n) >>> (nI p &&& 31)) &&& nI 1) = nI (if (decide (p < n) && f p) = true then 1 else 0) := by
  have := enc_31 (f := f) hn
  rw [x_sh _ rfl (by omega) (by omega), x_tb_div, (x_enc_ok f n).2 p]
theorem qp_in {V : xV} {p : Nat} (hp : p < vn V) (hn : vn V ≤ 12) (w : Int32) : qPlayer V (nI p) w = (if w = nI 0 then nI (vst V p) else if w = nI 1 then nI (vea V p) else if w = nI 2 then (if vin V p = true then nI 1 else nI 0) else if w = nI 3 then (if vph V = 1 ∧ vin V p = true then nI (vpl V p) else -1000004) else if w = nI 4 then vss V p else if w = nI 5 then vbu V p else if w = nI 6 then vwa V p else if w = nI 7 then (if vin V p = true then -1000004 else vou V p) else if w = nI 8 then (if vti V p = 0 then -1000004 else nI (vti V p)) else -1000001) := by
  unfold qPlayer
  rw [iN_nI (by omega), if_pos hp]
theorem qp0 {V : xV} {p : Nat} (hp : p < vn V) (hn : vn V ≤ 12) : qPlayer V (nI p) (nI 0) = nI (vst V p) := by rw [qp_in hp hn]; rfl
theorem qp1 {V : xV} {p : Nat} (hp : p < vn V) (hn : vn V ≤ 12) : qPlayer V (nI p) (nI 1) = nI (vea V p) := by rw [qp_in hp hn]; rfl
theorem qp2T {V : xV} {p : Nat} (hp : p < vn V) (hn : vn V ≤ 12) (h : vin V p = true) : qPlayer V (nI p) (nI 2) = nI 1 := by rw [qp_in hp hn, h]; rfl
theorem qp2F {V : xV} {p : Nat} (hp : p < vn V) (hn : vn V ≤ 12) (h : vin V p = false) : qPlayer V (nI p) (nI 2) = nI 0 := by rw [qp_in hp hn, h]; rfl
theorem qp3T {V : xV} {p : Nat} (hp : p < vn V) (hn : vn V ≤ 12) (h1 : vph V = 1) (h : vin V p = true) : qPlayer V (nI p) (nI 3) = nI (vpl V p) := by
  rw [qp_in hp hn]
  show (if vph V = 1 ∧ vin V p = true then nI (vpl V p) else -1000004) = _
  rw [if_pos ⟨h1, h⟩]
theorem qp3F {V : xV} {p : Nat} (hp : p < vn V) (hn : vn V ≤ 12) (h : ¬ (vph V = 1 ∧ vin V p = true)) : qPlayer V (nI p) (nI 3) = -1000004 := by
  rw [qp_in hp hn]
  show (if vph V = 1 ∧ vin V p = true then nI (vpl V p) else -1000004) = _
  rw [if_neg h]
theorem qp4 {V : xV} {p : Nat} (hp : p < vn V) (hn : vn V ≤ 12) : qPlayer V (nI p) (nI 4) = vss V p := by rw [qp_in hp hn]; rfl
theorem qp5 {V : xV} {p : Nat} (hp : p < vn V) (hn : vn V ≤ 12) : qPlayer V (nI p) (nI 5) = vbu V p := by rw [qp_in hp hn]; rfl
theorem qp6 {V : xV} {p : Nat} (hp : p < vn V) (hn : vn V ≤ 12) : qPlayer V (nI p) (nI 6) = vwa V p := by rw [qp_in hp hn]; rfl
theorem qp7T {V : xV} {p : Nat} (hp : p < vn V) (hn : vn V ≤ 12) (h : vin V p = true) : qPlayer V (nI p) (nI 7) = -1000004 := by rw [qp_in hp hn, h]; rfl
theorem qp7F {V : xV} {p : Nat} (hp : p < vn V) (hn : vn V ≤ 12) (h : vin V p = false) : qPlayer V (nI p) (nI 7) = nI (iN (vou V p)) := by rw [qp_in hp hn, h, nI_iN]; rfl
theorem qp8N {V : xV} {p : Nat} (hp : p < vn V) (hn : vn V ≤ 12) (h : vti V p = 0) : qPlayer V (nI p) (nI 8) = -1000004 := by
  rw [qp_in hp hn]
  show (if vti V p = 0 then -1000004 else nI (vti V p)) = _
  rw [if_pos h]
theorem qp8S {V : xV} {p : Nat} (hp : p < vn V) (hn : vn V ≤ 12) (h : ¬ vti V p = 0) : qPlayer V (nI p) (nI 8) = nI (vti V p) := by
  rw [qp_in hp hn]
  show (if vti V p = 0 then -1000004 else nI (vti V p)) = _
  rw [if_neg h]
theorem qp_out {V : xV} (hn : vn V ≤ 12) (w : Int32) : qPlayer V (nI (vn V)) w = -1000001 := by
  unfold qPlayer
  rw [iN_nI (by omega), if_neg (by omega)]
theorem qh_in {V : xV} {j : Nat} (hj : j < vc V) (hc : vc V ≤ 16) (w : Int32) : qChair V (nI j) w = (if w = nI 0 then nI (vtn V j) else if w = nI 1 then vsa V j else if w = nI 2 then (match vsi V j with | none => -1000004 | some q => nI q) else -1000001) := by
  unfold qChair
  rw [iN_nI (by omega), if_pos hj]
  cases vsi V j <;> rfl
theorem qh0 {V : xV} {j : Nat} (hj : j < vc V) (hc : vc V ≤ 16) : qChair V (nI j) (nI 0) = nI (vtn V j) := by rw [qh_in hj hc]; rfl
theorem qh1 {V : xV} {j : Nat} (hj : j < vc V) (hc : vc V ≤ 16) : qChair V (nI j) (nI 1) = nI (iN (vsa V j)) := by rw [qh_in hj hc, nI_iN]; rfl
theorem qh2N {V : xV} {j : Nat} (hj : j < vc V) (hc : vc V ≤ 16) (h : vsi V j = none) : qChair V (nI j) (nI 2) = -1000004 := by rw [qh_in hj hc, h]; rfl
theorem qh2S {V : xV} {j : Nat} (hj : j < vc V) (hc : vc V ≤ 16) {q : Nat} (h : vsi V j = some q) : qChair V (nI j) (nI 2) = nI q := by rw [qh_in hj hc, h]; rfl
theorem qh_out {V : xV} (hc : vc V ≤ 16) (w : Int32) : qChair V (nI (vc V)) w = -1000001 := by
  unfold qChair
  rw [iN_nI (by omega), if_neg (by omega)]
theorem qb_in {V : xV} {k w : Nat} (hk : k < (vR V).1) (h12 : (vR V).1 ≤ 12) (hw : w < 5) : qBell V (nI k) (nI w) = nI (iN ((vR V).2 k w)) := by
  unfold qBell
  rw [nI_iN, iN_nI (by omega), iN_nI (by omega), if_pos ⟨nI_pos (by omega), hw⟩, if_pos hk]
theorem qb_out {V : xV} {w : Nat} (h12 : (vR V).1 ≤ 12) (hw : w < 5) : qBell V (nI (vR V).1) (nI w) = -1000004 := by
  unfold qBell
  rw [iN_nI (by omega), iN_nI (by omega), if_pos ⟨nI_pos (by omega), hw⟩, if_neg (by omega)]
theorem x_sm_ns {f : Nat → Int32} : ∀ n, x_sm f n = nI (x_ns (fun p => iN (f p)) n)
  | 0 => rfl
  | n + 1 => by
    show x_sm f n + f n = nI (x_ns (fun p => iN (f p)) n + iN (f n))
    rw [x_sm_ns n, ← nI_add, nI_iN]
theorem x_ns_le {f : Nat → Nat} {m : Nat} : ∀ n, (∀ p, p < n → f p ≤ m) → x_ns f n ≤ n * m
  | 0, _ => Nat.zero_le _
  | n + 1, h => by
    have h1 := x_ns_le n (fun p hp => h p (by omega))
    have h2 := h n (by omega)
    show x_ns f n + f n ≤ (n + 1) * m
    rw [Nat.succ_mul]
    omega
/-- the last player in play ahead of p -/
def vOne (f : Nat → Bool) : Nat → Int32
  | 0 => -1000004
  | p + 1 => if f p = true then nI p else vOne f p
theorem vOne_no {f : Nat → Bool} : ∀ n, (∀ i, i < n → f i = false) → vOne f n = -1000004
  | 0, _ => rfl
  | n + 1, h => by
    show (if f n = true then nI n else vOne f n) = _
    rw [h n (by omega), if_neg (by decide), vOne_no n (fun i hi => h i (by omega))]
theorem vOne_at {f : Nat → Bool} {q : Nat} : ∀ n, q < n → f q = true → (∀ i, i < n → q < i → f i = false) → vOne f n = nI q
  | 0, h, _, _ => by omega
  | n + 1, h, hf, ho => by
    show (if f n = true then nI n else vOne f n) = _
    by_cases e : q = n
    · subst e
      rw [if_pos hf]
    · rw [ho n (by omega) (by omega), if_neg (by decide)]
      exact vOne_at n (by omega) hf (fun i hi => ho i (by omega))
theorem cnt1_one {f : Nat → Bool} {n : Nat} (h : x_cnt f n = 1) : vOne f n = nI (x_lf f n 0) ∧ x_lf f n 0 < n ∧ f (x_lf f n 0) = true := by
  have hex : ∃ j, 0 ≤ j ∧ j < 0 + n ∧ f j = true := by
    apply Classical.byContradiction
    intro z
    have := x_cnt_0 (f := f) n (fun i hi => by
      cases hf : f i with
      | false => rfl
      | true => exact absurd ⟨i, Nat.zero_le _, by omega, hf⟩ z)
    omega
  obtain ⟨h1, h2, h3, h4⟩ := x_lf_ok f n 0 hex
  refine ⟨vOne_at n (by omega) h3 (fun i hi hlt => ?_), by omega, h3⟩
  cases hf : f i with
  | false => rfl
  | true =>
    exfalso
    have hg : ∀ j, j < n → (fun j => decide (j = x_lf f n 0) || decide (j = i)) j = true → f j = true := fun j _ hj => by
      simp only [Bool.or_eq_true, decide_eq_true_eq] at hj
      rcases hj with rfl | rfl
      · exact h3
      · exact hf
    have hs := x_cnt_sub n hg
    rw [x_cnt_sum (g := fun j => decide (j = x_lf f n 0)) (k := fun j => decide (j = i)) n (fun j _ => by simp only [Bool.or_eq_true, decide_eq_true_eq]; refine ⟨trivial, ?_⟩; omega), x_cnt_1 (k := x_lf f n 0) n (by omega) (fun j _ => by simp), x_cnt_1 (k := i) n hi (fun j _ => by simp)] at hs
    omega
theorem qMean_nn {V : xV} {N : Nat} (h : vBd V N) (hN : N ≤ 600000) (h0 : ¬ vn V = 0) (h12 : vn V ≤ 12) : ¬ qMean V = -1000004 := by
  unfold qMean
  rw [if_neg h0]
  rcases vMn h hN h0 h12 with e | ⟨E, T, h1, h2, hT, e⟩
  · rw [e]
    decide
  · rw [e, fl_32]
    exact k_nn (by omega) (by decide)
