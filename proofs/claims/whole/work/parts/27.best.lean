/-! BEST of some -/
theorem am_n {f : Nat → Int32} {b0 : Nat} {c0 : Int32} {N : Nat} (hf : ∀ i, i < N → ∃ c, c ≤ 990000 ∧ f i = nI c) (h0 : ∃ c, c ≤ 990000 ∧ c0 = nI c) : ∀ i, i ≤ N → ∃ c, c ≤ 990000 ∧ (am f b0 c0 i).2 = nI c
  | 0, _ => h0
  | i + 1, hi => by
    by_cases hlt : (am f b0 c0 i).2 < f i
    · rw [am_t hlt]; exact hf i (by omega)
    · rw [am_f hlt]; exact am_n hf h0 i (by omega)
/-- after the first, what the begin was is one -/
theorem am_1 {f : Nat → Int32} (h0 : ∃ c, c ≤ 990000 ∧ f 0 = nI c) : ∀ i, am f 0 (-1) (i + 1) = am f 0 (f 0) (i + 1)
  | 0 => by
    obtain ⟨c, hc, e⟩ := h0
    have h1 : (am f 0 (-1) 0).2 < f 0 := by
      show (-1 : Int32) < f 0
      rw [e, i_lt, nI_toInt (by omega)]
      exact Int.lt_of_lt_of_le (by decide : (-1 : Int32).toInt < 0) (by omega)
    rw [am_t h1]
    show (0, f 0) = if f 0 < f 0 then (0, f 0) else (0, f 0)
    split <;> rfl
  | i + 1 => by
    have ih := am_1 h0 i
    by_cases hlt : (am f 0 (-1) (i + 1)).2 < f (i + 1)
    · rw [am_t hlt, am_t (by rw [← ih]; exact hlt)]
    · exact (am_f hlt).trans (ih.trans (am_f (b0 := 0) (c0 := f 0) (i := i + 1) (by rw [← ih]; exact hlt)).symm)
theorem sub_le {x y c : Nat} (hx : x ≤ 990000) (hy : y ≤ 990000) (hc : c ≤ 990000) : (nI x - nI c ≤ nI y - nI c) ↔ x ≤ y := by
  rw [i_le, pk_sub_toInt (by omega) (by omega), pk_sub_toInt (by omega) (by omega)]
  omega
theorem P_best {σ : Sg} (h : J σ) (s nv : Int32) : Pair mX4_best mX5_best [.int s, .int nv] σ := by
  have f46 := J46 h
  obtain ⟨n, hh, v, h9⟩ := h.1
  have hn8 := v.1.1
  have z1 := h.2.1.1
  have z10 := h.2.1.2.1
  have z46 := J_z46 h
  have z48 := h.2.2.2.1.1
  cases hs : bI s 0 ((n : Int) - 1) with
  | false =>
      refine Pair_fd h 0 ?_ ?_
      · refine Ct.of (by decide +kernel) zX4_best (Nat.le_of_ble_eq_true rfl) (by decide) (fun X go => ?_)
        refine go.1 [] 100 _ _ _ _ ?_
        refine cl (isS v hs) ?_
        refine cl (ah_bad h9 v.1.2.2.2 1 48 (by decide) false rfl) ?_
        refine br_f (by decide) ?_
        exact And.intro rfl rfl
      · refine Ct.of (by decide +kernel) zX5_best (Nat.le_of_ble_eq_true rfl) (by decide) (fun X go => ?_)
        refine go.1 [] 100 _ _ _ _ ?_
        refine cl (isSM v (σ := tel σ 0) f46 hs) ?_
        refine br_t (by decide) ?_
        refine cl (ct_finds (w := 0) (by decide) fd0 _) ?_
        exact And.intro rfl rfl
  | true =>
    cases hn : bI nv 1 48 with
    | false =>
      refine Pair_fd h 0 ?_ ?_
      · refine Ct.of (by decide +kernel) zX4_best (Nat.le_of_ble_eq_true rfl) (by decide) (fun X go => ?_)
        refine go.1 [] 100 _ _ _ _ ?_
        refine cl (isS v hs) ?_
        refine cl (ah_bad h9 v.1.2.2.2 1 48 (by decide) true hn) ?_
        refine br_f (by decide) ?_
        exact And.intro rfl rfl
      · refine Ct.of (by decide +kernel) zX5_best (Nat.le_of_ble_eq_true rfl) (by decide) (fun X go => ?_)
        refine go.1 [] 100 _ _ _ _ ?_
        refine cl (isSM v (σ := tel σ 0) f46 hs) ?_
        refine br_f (by decide) ?_
        refine cl (isDM hn _) ?_
        refine br_t (by decide) ?_
        refine cl (ct_finds (w := 0) (by decide) fd0 _) ?_
        exact And.intro rfl rfl
    | true =>
      obtain ⟨m, hm1, hm2, en⟩ := bI_n hn (by decide) (by decide)
      by_cases late : 999 < hh + m
      · refine Pair_fd h 4 ?_ ?_
        · refine Ct.of (by decide +kernel) zX4_best (Nat.le_of_ble_eq_true rfl) (by decide) (fun X go => ?_)
          refine go.1 [] 100 _ _ _ _ ?_
          refine cl (isS v hs) ?_
          refine cl (ah_late h9 v.1.2.2.2 1 48 (by decide) hn en (by omega) late) ?_
          refine br_f (by decide) ?_
          exact And.intro rfl rfl
        · refine Ct.of (by decide +kernel) zX5_best (Nat.le_of_ble_eq_true rfl) (by decide) (fun X go => ?_)
          refine go.1 [] 100 _ _ _ _ ?_
          refine cl (isSM v (σ := tel σ 4) f46 hs) ?_
          refine br_f (by decide) ?_
          refine cl (isDM hn _) ?_
          refine br_f (by decide) ?_
          refine cl (tl h9 (σ := tel σ 4) f46 v.1.2.2.2 en (by omega) (decide_eq_true late)) ?_
          refine br_f (by decide) ?_
          refine cl (ct_finds (w := 4) (by decide) fd4 _) ?_
          exact And.intro rfl rfl
      · obtain ⟨k, hk, rfl⟩ := st_n v.1.1 hs
        have hk8 : k < 8 := by omega
        have hm : hh + m ≤ 2000 := by omega
        have hf : ∀ i, i < 12 → ∃ c, c ≤ 990000 ∧ cn n m k (brT (Tq 1 σ) n k (nI i)) = nI c := fun i hi => cn_n (VT_br v hk hi rfl) hm hk8
        obtain ⟨c0, hc0, ec0⟩ := cn_n v hm hk8
        obtain ⟨f, hfd⟩ : ∃ f : Nat → Int32, f = fun i => cn n m k (brT (Tq 1 σ) n k (nI i)) := ⟨_, rfl⟩
        have hf : ∀ i, i < 12 → ∃ c, c ≤ 990000 ∧ f i = nI c := by rw [hfd]; exact hf
        obtain ⟨Ub, hUb⟩ : ∃ Ub : Nat → Sg, Ub = fun i => match i with | 0 => Tq 10 σ | i + 1 => hrsT n (brT (Tq 1 σ) n k (nI i)) m := ⟨_, rfl⟩
        have zU : ∀ i, ZT (Ub i) := by
          intro i
          rw [hUb]
          cases i with
          | zero => exact z10
          | succ i => exact ZT_hrs hn8 (ZT_br z1 hn8 hk8 _) m
        have U0 : putSq 10 (Ub 0) σ = σ := by rw [hUb]; exact putSq_self 10 σ
        have cc : ∀ i, i < 12 → Ct mX4_coinFrom [.ref 0, .int (nI k), .int (nI i), .int nv] (putSq 10 (Ub i) σ) (Ex (some (.int (f i))) (putSq 10 (Ub (i + 1)) σ)) := by
          intro i hi
          have c := ct_coinFrom v z1 (zU i) hm hk hi (p := nI i) rfl en
          rw [hfd]
          rw [show Ub (i + 1) = hrsT n (brT (Tq 1 σ) n k (nI i)) m by rw [hUb]]
          exact c
        refine ⟨nI (am f 0 (-1) 12).1, putSq 10 (Ub 12) σ, sv (putSq 10 (Ub 12) σ), ?_, ?_, J_tr h (zU 12)⟩
        · refine Ct.of (by decide +kernel) zX4_best (Nat.le_of_ble_eq_true rfl) (by decide) (fun X go => ?_)
          refine go.1 [29] 100 _ _ _ _ ?_
          have L : ∀ d i, i + d = 12 → X 29 [(0, .ref 0), (1, .int (nI k)), (2, .int nv), (3, .int 0), (4, .int (nI (am f 0 (-1) i).1)), (5, .int (am f 0 (-1) i).2), (6, .int (nI i))] [] (putSq 10 (Ub i) σ) := by
            intro d
            induction d with
            | zero =>
              intro i hi
              have hi : i = 12 := by omega
              subst hi
              refine go.1 [29] 60 _ _ _ _ ?_
              refine br_t (by decide) ?_
              exact And.intro rfl rfl
            | succ d ih =>
              intro i hi
              have ihi := ih (i + 1) (by omega)
              rw [nI_succ] at ihi
              refine go.1 [29] 60 _ _ _ _ ?_
              refine br_f (show ¬ nI 12 ≤ nI i from nI_ge (by omega) (by omega)) ?_
              refine cl (cc i (by omega)) ?_
              refine And.intro (fun (q : f i ≤ (am f 0 (-1) i).2) => ?_) (fun (q : ¬ f i ≤ (am f 0 (-1) i).2) => ?_)
              · rw [am_f (fun z => Int32.not_lt.mpr q z)] at ihi
                refine go.2 [0, 1, 2, 3, 4, 5, 6] _ _ _ _ ?_
                exact ihi
              · rw [am_t (Int32.not_le.mp q)] at ihi
                refine go.2 [0, 1, 2, 3, 4, 5, 6] _ _ _ _ ?_
                exact ihi
          refine cl (isS v hs) ?_
          refine cl (ah_ok h9 v.1.2.2.2 1 48 (by decide) hn en (by omega) late) ?_
          refine br_t (by decide) ?_
          have L0 := L 12 0 rfl
          rw [U0] at L0
          exact L0
        · generalize hσ1 : putSq 10 (Ub 12) σ = σ1
          have f1 : σ1 46 = flat (Tq 1 σ) := by rw [← hσ1]; exact f46
          have z1' : Zr 78 (σ1 46) := by rw [← hσ1]; exact z46
          have z8' : Zr 78 (σ1 48) := by rw [← hσ1]; exact z48
          have cw : ∀ i, i < 12 → Ct mX5_worthOf [.ref 45, .int (nI k), .int (nI i), .int nv] (sv σ1) (Ex (some (.int (f i - cn n m k (Tq 1 σ)))) (sv σ1)) := by
            intro i hi
            rw [hfd]
            exact ct_worthOf v f1 hm hk hi rfl en
          have hA := am_n (b0 := 0) hf (hf 0 (by decide))
          have hA1 := am_1 (hf 0 (by decide))
          rw [show (12 : Nat) = 11 + 1 from rfl, hA1 11]
          refine Ct.of (by decide +kernel) zX5_best (Nat.le_of_ble_eq_true rfl) (by decide) (fun X go => ?_)
          refine go.1 [49] 100 _ _ _ _ ?_
          have L : ∀ d i, i + d = 11 → X 49 [(0, .ref 45), (1, .int (nI k)), (2, .int nv), (3, .int (nI (am f 0 (f 0) (i + 1)).1)), (4, .int ((am f 0 (f 0) (i + 1)).2 - cn n m k (Tq 1 σ))), (5, .int (nI (i + 1)))] [] (sv σ1) := by
            intro d
            induction d with
            | zero =>
              intro i hi
              have hi : i = 11 := by omega
              subst hi
              refine go.1 [49] 60 _ _ _ _ ?_
              refine br_t (by decide) ?_
              exact And.intro rfl rfl
            | succ d ih =>
              intro i hi
              have ihi := ih (i + 1) (by omega)
              rw [nI_succ (i + 1)] at ihi
              refine go.1 [49] 60 _ _ _ _ ?_
              refine br_f (show ¬ nI 12 ≤ nI (i + 1) from nI_ge (by omega) (by omega)) ?_
              refine cl (cw (i + 1) (by omega)) ?_
              refine br_f (nI_pos (by
                have : ∀ j, (am f 0 (f 0) j).1 ≤ j := by
                  intro j
                  induction j with
                  | zero => exact Nat.le_refl _
                  | succ j ihj =>
                    by_cases z : (am f 0 (f 0) j).2 < f j
                    · rw [am_t z]; exact Nat.le_succ _
                    · rw [am_f z]; omega
                have := this (i + 1)
                omega)) ?_
              obtain ⟨x, hx, ex⟩ := hf (i + 1) (by omega)
              obtain ⟨y, hy, ey⟩ := hA (i + 1) (by omega)
              refine And.intro (fun (q : f (i + 1) - cn n m k (Tq 1 σ) ≤ (am f 0 (f 0) (i + 1)).2 - cn n m k (Tq 1 σ)) => ?_) (fun (q : ¬ f (i + 1) - cn n m k (Tq 1 σ) ≤ (am f 0 (f 0) (i + 1)).2 - cn n m k (Tq 1 σ)) => ?_)
              · rw [ex, ey, ec0, sub_le hx hy hc0] at q
                rw [am_f (by rw [ex, ey]; exact nI_nlt q (by omega))] at ihi
                refine go.2 [0, 1, 2, 3, 4, 5] _ _ _ _ ?_
                exact ihi
              · rw [ex, ey, ec0, sub_le hx hy hc0] at q
                rw [am_t (by rw [ex, ey]; exact nI_lt (by omega) (by omega))] at ihi
                refine go.2 [0, 1, 2, 3, 4, 5] _ _ _ _ ?_
                exact ihi
          refine cl (isSM v f1 hs) ?_
          refine br_f (by decide) ?_
          refine cl (isDM hn _) ?_
          refine br_f (by decide) ?_
          refine cl (tl h9 f1 v.1.2.2.2 en (by omega) (decide_eq_false late)) ?_
          refine br_t (by decide) ?_
          refine cl (ct_sv z1' z8') ?_
          have f0 : am f 0 (f 0) 1 = (0, f 0) := by
            show (if f 0 < f 0 then (0, f 0) else (0, f 0)) = _
            split <;> rfl
          have L0 := L 11 0 rfl
          rw [f0] at L0
          have L00 : X 49 [(0, .ref 45), (1, .int (nI k)), (2, .int nv), (3, .int (-1)), (4, .int 0), (5, .int 0)] [] (sv σ1) := by
            refine go.1 [49] 60 _ _ _ _ ?_
            refine br_f (by decide) ?_
            refine cl (cw 0 (by decide)) ?_
            refine br_t (by decide) ?_
            refine go.2 [0, 1, 2, 3, 4, 5] _ _ _ _ ?_
            exact L0
          exact L00
theorem P_wishes {σ : Sg} (h : J σ) (s nv : Int32) : Pair mX4_wishes mX5_wishes [.int s, .int nv] σ := by
  have f46 := J46 h
  obtain ⟨n, hh, v, h9⟩ := h.1
  have hn8 := v.1.1
  have z1 := h.2.1.1
  have z10 := h.2.1.2.1
  have z46 := J_z46 h
  have z48 := h.2.2.2.1.1
  cases hs : bI s 0 ((n : Int) - 1) with
  | false =>
      refine Pair_fd h 0 ?_ ?_
      · refine Ct.of (by decide +kernel) zX4_wishes (Nat.le_of_ble_eq_true rfl) (by decide) (fun X go => ?_)
        refine go.1 [] 100 _ _ _ _ ?_
        refine cl (isS v hs) ?_
        refine cl (ah_bad h9 v.1.2.2.2 1 48 (by decide) false rfl) ?_
        refine br_f (by decide) ?_
        exact And.intro rfl rfl
      · refine Ct.of (by decide +kernel) zX5_wishes (Nat.le_of_ble_eq_true rfl) (by decide) (fun X go => ?_)
        refine go.1 [] 100 _ _ _ _ ?_
        refine cl (isSM v (σ := tel σ 0) f46 hs) ?_
        refine br_t (by decide) ?_
        refine cl (ct_finds (w := 0) (by decide) fd0 _) ?_
        exact And.intro rfl rfl
  | true =>
    cases hn : bI nv 1 48 with
    | false =>
      refine Pair_fd h 0 ?_ ?_
      · refine Ct.of (by decide +kernel) zX4_wishes (Nat.le_of_ble_eq_true rfl) (by decide) (fun X go => ?_)
        refine go.1 [] 100 _ _ _ _ ?_
        refine cl (isS v hs) ?_
        refine cl (ah_bad h9 v.1.2.2.2 1 48 (by decide) true hn) ?_
        refine br_f (by decide) ?_
        exact And.intro rfl rfl
      · refine Ct.of (by decide +kernel) zX5_wishes (Nat.le_of_ble_eq_true rfl) (by decide) (fun X go => ?_)
        refine go.1 [] 100 _ _ _ _ ?_
        refine cl (isSM v (σ := tel σ 0) f46 hs) ?_
        refine br_f (by decide) ?_
        refine cl (isDM hn _) ?_
        refine br_t (by decide) ?_
        refine cl (ct_finds (w := 0) (by decide) fd0 _) ?_
        exact And.intro rfl rfl
    | true =>
      obtain ⟨m, hm1, hm2, en⟩ := bI_n hn (by decide) (by decide)
      by_cases late : 999 < hh + m
      · refine Pair_fd h 4 ?_ ?_
        · refine Ct.of (by decide +kernel) zX4_wishes (Nat.le_of_ble_eq_true rfl) (by decide) (fun X go => ?_)
          refine go.1 [] 100 _ _ _ _ ?_
          refine cl (isS v hs) ?_
          refine cl (ah_late h9 v.1.2.2.2 1 48 (by decide) hn en (by omega) late) ?_
          refine br_f (by decide) ?_
          exact And.intro rfl rfl
        · refine Ct.of (by decide +kernel) zX5_wishes (Nat.le_of_ble_eq_true rfl) (by decide) (fun X go => ?_)
          refine go.1 [] 100 _ _ _ _ ?_
          refine cl (isSM v (σ := tel σ 4) f46 hs) ?_
          refine br_f (by decide) ?_
          refine cl (isDM hn _) ?_
          refine br_f (by decide) ?_
          refine cl (tl h9 (σ := tel σ 4) f46 v.1.2.2.2 en (by omega) (decide_eq_true late)) ?_
          refine br_f (by decide) ?_
          refine cl (ct_finds (w := 4) (by decide) fd4 _) ?_
          exact And.intro rfl rfl
      · obtain ⟨k, hk, rfl⟩ := st_n v.1.1 hs
        have hk8 : k < 8 := by omega
        have hm : hh + m ≤ 2000 := by omega
        obtain ⟨f, hfd⟩ : ∃ f : Nat → Int32, f = fun i => cn n m k (swT (Tq 1 σ) k i) := ⟨_, rfl⟩
        obtain ⟨c0, hc0d⟩ : ∃ c0 : Int32, c0 = cn n m k (Tq 1 σ) := ⟨_, rfl⟩
        obtain ⟨Ub, hUb⟩ : ∃ Ub : Nat → Sg, Ub = fun i => match i with | 0 => hrsT n (Tq 1 σ) m | i + 1 => hrsT n (swT (Tq 1 σ) k i) m := ⟨_, rfl⟩
        have U0 : Ub 0 = hrsT n (Tq 1 σ) m := by rw [hUb]
        have US : ∀ i, Ub (i + 1) = hrsT n (swT (Tq 1 σ) k i) m := by intro i; rw [hUb]
        have zU : ∀ i, i ≤ n → ZT (Ub i) := by
          intro i hi
          cases i with
          | zero => rw [U0]; exact ZT_hrs hn8 z1 m
          | succ i => rw [US]; exact ZT_hrs hn8 (ZT_sw z1 hk8 (by omega)) m
        have cc : ∀ i, i < n → Ct mX4_swapAhead [.ref 0, .int (nI k), .int (nI i), .int nv] (putSq 10 (Ub i) σ) (Ex none (putSq 10 (Ub (i + 1)) σ)) := by
          intro i hi
          rw [US]
          exact ct_swapAhead v z1 (zU i (by omega)) hm hk hi en
        have cr : ∀ i, putSq 10 (Ub (i + 1)) σ 16 k = f i := by intro i; rw [US, hfd]; rfl
        have hnn : σ 1 9 = nI n := v.1.2.2.1
        refine ⟨nI (am f k c0 n).1, putSq 10 (Ub n) σ, sv (putSq 10 (Ub n) σ), ?_, ?_, J_tr h (zU n (Nat.le_refl n))⟩
        · refine Ct.of (by decide +kernel) zX4_wishes (Nat.le_of_ble_eq_true rfl) (by decide) (fun X go => ?_)
          refine go.1 [44] 100 _ _ _ _ ?_
          have L : ∀ d i, i + d = n → X 44 [(0, .ref 0), (1, .int (nI k)), (2, .int nv), (3, .int 0), (4, .int (nI (am f k c0 i).1)), (5, .int (am f k c0 i).2), (6, .int (nI i))] [] (putSq 10 (Ub i) σ) := by
            intro d
            induction d with
            | zero =>
              intro i hi
              have hi : i = n := by omega
              subst hi
              refine go.1 [44] 60 _ _ _ _ ?_
              refine br_t (show σ 1 9 ≤ nI i by rw [hnn]; exact nI_le (Nat.le_refl _) (by omega)) ?_
              exact And.intro rfl rfl
            | succ d ih =>
              intro i hi
              have ihi := ih (i + 1) (by omega)
              rw [nI_succ] at ihi
              refine go.1 [44] 80 _ _ _ _ ?_
              refine br_f (show ¬ σ 1 9 ≤ nI i by rw [hnn]; exact nI_ge (by omega) (by omega)) ?_
              refine cl (cc i (by omega)) ?_
              refine Exists.intro (k) (And.intro ⟨rfl, by omega, by omega⟩ ?_)
              refine And.intro (fun (q : putSq 10 (Ub (i + 1)) σ 16 k ≤ (am f k c0 i).2) => ?_) (fun (q : ¬ putSq 10 (Ub (i + 1)) σ 16 k ≤ (am f k c0 i).2) => ?_)
              · rw [cr] at q
                rw [am_f (fun z => Int32.not_lt.mpr q z)] at ihi
                exact ihi
              · rw [cr] at q
                rw [am_t (Int32.not_le.mp q), ← cr i] at ihi
                refine Exists.intro (k) (And.intro ⟨rfl, by omega, by omega⟩ ?_)
                exact ihi
          have cs := ct_swapAhead (σ := σ) v z1 z10 hm hk hk en
          rw [putSq_self, swT_self, ← U0] at cs
          refine cl (isS v hs) ?_
          refine cl (ah_ok h9 v.1.2.2.2 1 48 (by decide) hn en (by omega) late) ?_
          refine br_t (by decide) ?_
          refine cl (cs) ?_
          refine Exists.intro (k) (And.intro ⟨rfl, by omega, by omega⟩ ?_)
          have L0 := L n 0 (by omega)
          rw [show (am f k c0 0).2 = putSq 10 (Ub 0) σ 16 k by rw [U0]; exact hc0d] at L0
          exact L0
        · generalize hσ1 : putSq 10 (Ub n) σ = σ1
          have f1 : σ1 46 = flat (Tq 1 σ) := by rw [← hσ1]; exact f46
          have z1' : Zr 78 (σ1 46) := by rw [← hσ1]; exact z46
          have z8' : Zr 78 (σ1 48) := by rw [← hσ1]; exact z48
          have fs : sv σ1 46 = flat (Tq 1 σ) := f1
          have hn1 : sv σ1 46 1 = nI n := by rw [fs]; exact v.1.2.2.1
          refine Ct.of (by decide +kernel) zX5_wishes (Nat.le_of_ble_eq_true rfl) (by decide) (fun X go => ?_)
          refine go.1 [54] 100 _ _ _ _ ?_
          have L : ∀ d i, i + d = n → X 54 [(0, .ref 45), (1, .int (nI k)), (2, .int nv), (3, .int (nI (am f k c0 i).1)), (4, .int (am f k c0 i).2), (5, .int (nI i))] [] (sv σ1) := by
            intro d
            induction d with
            | zero =>
              intro i hi
              have hi : i = n := by omega
              subst hi
              refine go.1 [54] 60 _ _ _ _ ?_
              refine Exists.intro (1) (And.intro ⟨rfl, by omega, by omega⟩ ?_)
              refine br_t (show sv σ1 46 1 ≤ nI i by rw [hn1]; exact nI_le (Nat.le_refl _) (by omega)) ?_
              exact And.intro rfl rfl
            | succ d ih =>
              intro i hi
              have ihi := ih (i + 1) (by omega)
              rw [nI_succ] at ihi
              have cw := ct_swaps hk8 (show i < 8 by omega) (av := nI k) (bv := nI i) rfl rfl (sv σ1) (Tq 1 σ)
              rw [MSe fs] at cw
              have ccn := ct_coinOf (σ := σ1) (VT_sw v hk (show i < n by omega)) hm hk8 z1' en
              rw [show cn n m k (swT (Tq 1 σ) k i) = f i by rw [hfd]] at ccn
              refine go.1 [54] 80 _ _ _ _ ?_
              refine Exists.intro (1) (And.intro ⟨rfl, by omega, by omega⟩ ?_)
              refine br_f (show ¬ sv σ1 46 1 ≤ nI i by rw [hn1]; exact nI_ge (by omega) (by omega)) ?_
              refine cl cw ?_
              refine cl ccn ?_
              refine And.intro (fun (q : f i ≤ (am f k c0 i).2) => ?_) (fun (q : ¬ f i ≤ (am f k c0 i).2) => ?_)
              · rw [am_f (fun z => Int32.not_lt.mpr q z)] at ihi
                refine br_t q ?_
                refine go.2 [0, 1, 2, 3, 4, 5] _ _ _ _ ?_
                exact ihi
              · rw [am_t (Int32.not_le.mp q)] at ihi
                refine br_f q ?_
                refine go.2 [0, 1, 2, 3, 4, 5] _ _ _ _ ?_
                exact ihi
          have cz := ct_coin0 (σ := σ1) v f1 hm hk8 en
          rw [← hc0d] at cz
          refine cl (isSM v f1 hs) ?_
          refine br_f (by decide) ?_
          refine cl (isDM hn _) ?_
          refine br_f (by decide) ?_
          refine cl (tl h9 f1 v.1.2.2.2 en (by omega) (decide_eq_false late)) ?_
          refine br_t (by decide) ?_
          refine cl (ct_sv z1' z8') ?_
          refine cl (cz) ?_
          exact L n 0 (by omega)
