/-! LOTS; throwAway -/
def zS (x : Int32) : Int32 := x * 1103515245 + 12345
abbrev u8 (x : Int32) : Int32 := (x.toUInt32 >>> ((8 : Int32).toUInt32 &&& Int32.toUInt32 31)).toInt32
theorem u8_n (x : Int32) : ∃ m, m < 2 ^ 24 ∧ u8 x = nI m := by
  refine ⟨x.toBitVec.toNat / 2 ^ 8, ?_, ?_⟩
  · have := x.toBitVec.isLt
    omega
  · refine Int32.toBitVec_inj.mp (BitVec.eq_of_toNat_eq ?_)
    rw [pk_tn (by have := x.toBitVec.isLt; omega)]
    exact pk_ushr x 8 8 (by decide)
/-- which one a lot is -/
def ix (n : Nat) (x : Int32) : Nat := (rm (u8 x) (nI n)).toNatClampNeg
theorem ix_n {n : Nat} (h0 : 0 < n) (h8 : n ≤ 8) (x : Int32) : rm (u8 x) (nI n) = nI (ix n x) ∧ ix n x < n := by
  obtain ⟨m, hm, e⟩ := u8_n x
  have e2 : rm (u8 x) (nI n) = nI (m % n) := by rw [e]; exact pk_rem (by omega) h0 (by omega)
  have : m % n < n := Nat.mod_lt _ h0
  have e3 : ix n x = m % n := by unfold ix; rw [e2]; exact nI_clamp (by omega)
  rw [e3]
  exact ⟨e2, this⟩
def drT (T : Sg) : Sg := upr T 0 (upd (T 0) 11 (zS (T 0 11)))
def loT (n : Nat) (T : Sg) : Sg := swT (drT (drT T)) (ix n (zS (T 0 11))) (ix n (zS (drT T 0 11)))
def loN (n : Nat) (T : Sg) : Nat → Sg
  | 0 => T
  | k + 1 => loT n (loN n T k)
theorem drT_z (T : Sg) : drT T 0 11 = zS (T 0 11) := rfl
theorem VT_dr {n h : Nat} {T : Sg} (v : VT n h T) : VT n h (drT T) := VT_row0 v (Or.inr rfl)
theorem ZT_dr {T : Sg} (z : ZT T) : ZT (drT T) := ZT_row0 z (by decide)
theorem VT_lo {n h : Nat} (h0 : 0 < n) {T : Sg} (v : VT n h T) : VT n h (loT n T) := VT_sw (VT_dr (VT_dr v)) (ix_n h0 v.1.1 _).2 (ix_n h0 v.1.1 _).2
theorem ZT_lo {n : Nat} (h0 : 0 < n) (h8 : n ≤ 8) {T : Sg} (z : ZT T) : ZT (loT n T) := ZT_sw (ZT_dr (ZT_dr z)) (by have := (ix_n h0 h8 (zS (T 0 11))).2; omega) (by have := (ix_n h0 h8 (zS (drT T 0 11))).2; omega)
theorem VT_loN {n h : Nat} (h0 : 0 < n) {T : Sg} (v : VT n h T) : ∀ k, VT n h (loN n T k)
  | 0 => v
  | k + 1 => VT_lo h0 (VT_loN h0 v k)
theorem ZT_loN {n : Nat} (h0 : 0 < n) (h8 : n ≤ 8) {T : Sg} (z : ZT T) : ∀ k, ZT (loN n T k)
  | 0 => z
  | k + 1 => ZT_lo h0 h8 (ZT_loN h0 h8 z k)
theorem ct_draw (T σ : Sg) : Ct mX2_draw [.ref 1] (putSq 1 T σ) (Ex (some (.int (u8 (zS (T 0 11))))) (putSq 1 (drT T) σ)) := by
  have e : up2 (putSq 1 T σ) 1 11 (zS (T 0 11)) = putSq 1 (drT T) σ := put2 (o := 1) (j := 0) (by decide) 11 _
  rw [← e]
  refine Ct.of (by decide +kernel) zX2_draw (Nat.le_of_ble_eq_true rfl) (by decide) (fun X go => ?_)
  refine go.1 [] 40 _ _ _ _ ?_
  refine And.intro ⟨rfl, rfl⟩ ?_
  exact And.intro rfl rfl
theorem ct_drawM (T σ : Sg) : Ct mX5_draw [.ref 45] (MS σ T) (Ex (some (.int (u8 (zS (T 0 11))))) (MS σ (drT T))) := by
  have e : up2 (MS σ T) 46 3 (zS (T 0 11)) = MS σ (drT T) := by
    show upr (MS σ T) 46 (upd (MS σ T 46) 3 _) = _
    rw [show MS σ T 46 = flat T from upr_in _ _ _, flat_upd_f (Or.inr (Or.inr ⟨rfl, rfl⟩)), upr_upr]
    rfl
  rw [← e]
  refine Ct.of (by decide +kernel) zX5_draw (Nat.le_of_ble_eq_true rfl) (by decide) (fun X go => ?_)
  refine go.1 [] 40 _ _ _ _ ?_
  refine Exists.intro (3) (And.intro ⟨rfl, by omega, by omega⟩ ?_)
  refine Exists.intro (3) (And.intro ⟨rfl, by omega, by omega⟩ ?_)
  refine Exists.intro (3) (And.intro ⟨rfl, by omega, by omega⟩ ?_)
  exact And.intro rfl rfl
theorem P_lots {σ : Sg} (h : J σ) (nv : Int32) : Pair mX4_lots mX5_lots [.int nv] σ := by
  have f46 := J46 h
  obtain ⟨n, hh, v, h9⟩ := h.1
  have hn8 := v.1.1
  have z1 := h.2.1.1
  have z10 := h.2.1.2.1
  have z46 := J_z46 h
  have z48 := h.2.2.2.1.1
  have hnn : σ 1 9 = nI n := v.1.2.2.1
  have hn46 : σ 46 1 = nI n := by rw [f46]; exact v.1.2.2.1
  cases hn : bI nv 1 12 with
  | false =>
      have hn' := bI_f.mp hn
      refine Pair_fd h 0 ?_ ?_
      · refine Ct.of (by decide +kernel) zX4_lots (Nat.le_of_ble_eq_true rfl) (by decide) (fun X go => ?_)
        refine go.1 [] 100 _ _ _ _ ?_
        refine And.intro (fun (q : nv < 1) => ?_) (fun (q : ¬ nv < 1) => ?_)
        · refine cl (ct_fd (w := 0) (by decide) rfl _) ?_
          exact And.intro rfl rfl
        · refine br_f (show ¬ nv ≤ 12 from fun g => ?_) ?_
          · have g : nv.toInt ≤ 12 := (i_le nv 12).mp g
            have q : ¬ nv.toInt < 1 := fun z => q ((i_lt nv 1).mpr z)
            exact hn' ⟨by omega, g⟩
          · refine cl (ct_fd (w := 0) (by decide) rfl _) ?_
            exact And.intro rfl rfl
      · refine Ct.of (by decide +kernel) zX5_lots (Nat.le_of_ble_eq_true rfl) (by decide) (fun X go => ?_)
        refine go.1 [] 100 _ _ _ _ ?_
        refine cl (inM 1 12 hn _) ?_
        refine br_t (by decide) ?_
        refine cl (ct_finds (w := 0) (by decide) fd0 _) ?_
        exact And.intro rfl rfl
  | true =>
    obtain ⟨m, hm1, hm2, rfl⟩ := bI_n hn (by decide) (by decide)
    have b1 : ¬ nI m < 1 := nI_nlt (a := m) (b := 1) (by omega) (by omega)
    have b2 : nI m ≤ 12 := nI_le (a := m) (b := 12) (by omega) (by omega)
    by_cases h0 : n = 0
    · subst h0
      refine Pair_fd h 4 ?_ ?_
      · refine Ct.of (by decide +kernel) zX4_lots (Nat.le_of_ble_eq_true rfl) (by decide) (fun X go => ?_)
        refine go.1 [] 100 _ _ _ _ ?_
        refine br_f b1 ?_
        refine br_t b2 ?_
        refine br_f (show ¬ 0 < σ 1 9 by rw [hnn]; decide) ?_
        refine cl (ct_fd (w := 4) (by decide) rfl _) ?_
        exact And.intro rfl rfl
      · refine Ct.of (by decide +kernel) zX5_lots (Nat.le_of_ble_eq_true rfl) (by decide) (fun X go => ?_)
        refine go.1 [] 100 _ _ _ _ ?_
        refine cl (inM 1 12 hn _) ?_
        refine br_f (by decide) ?_
        refine Exists.intro (1) (And.intro ⟨rfl, by omega, by omega⟩ ?_)
        refine br_t (show σ 46 1 = 0 from hn46) ?_
        refine cl (ct_finds (w := 4) (by decide) fd4 _) ?_
        exact And.intro rfl rfl
    · have h0 : 0 < n := by omega
      have VN := VT_loN h0 v
      have hz : ∀ k, loN n (Tq 1 σ) k 0 9 = nI n := fun k => (VN k).1.2.2.1
      refine ⟨nI 100 * loN n (Tq 1 σ) m 4 0 + loN n (Tq 1 σ) m 4 (n - 1), putSq 1 (loN n (Tq 1 σ) m) σ, MS (putSq 1 (loN n (Tq 1 σ) m) σ) (loN n (Tq 1 σ) m), ?_, ?_, ?_⟩
      · refine Ct.of (by decide +kernel) zX4_lots (Nat.le_of_ble_eq_true rfl) (by decide) (fun X go => ?_)
        refine go.1 [35] 100 _ _ _ _ ?_
        have L : ∀ d k, k + d = m → X 35 [(0, .ref 0), (1, .int (nI m)), (2, .int (nI k))] [] (putSq 1 (loN n (Tq 1 σ) k) σ) := by
          intro d
          induction d with
          | zero =>
            intro k hk
            have hk : k = m := by omega
            subst hk
            refine go.1 [35] 60 _ _ _ _ ?_
            refine br_t (show nI k ≤ nI k from nI_le (Nat.le_refl _) (by omega)) ?_
            refine Exists.intro (0) (And.intro ⟨rfl, by omega, by omega⟩ ?_)
            refine Exists.intro (n - 1) (And.intro ⟨?_, by omega, by omega⟩ ?_)
            · show loN n (Tq 1 σ) k 0 9 - nI 1 = _
              rw [hz k]
              exact pk_sub (by omega)
            · exact And.intro rfl rfl
          | succ d ih =>
            intro k hk
            have ihk := ih (k + 1) (by omega)
            rw [nI_succ] at ihk
            have i1 := ix_n h0 hn8 (zS (loN n (Tq 1 σ) k 0 11))
            have i2 := ix_n h0 hn8 (zS (drT (loN n (Tq 1 σ) k) 0 11))
            refine go.1 [35] 60 _ _ _ _ ?_
            refine br_f (show ¬ nI m ≤ nI k from nI_ge (by omega) (by omega)) ?_
            refine cl (ct_draw (loN n (Tq 1 σ) k) σ) ?_
            have d1 : putSq 1 (drT (loN n (Tq 1 σ) k)) σ 1 9 = nI n := hz k
            have d2 : putSq 1 (drT (drT (loN n (Tq 1 σ) k))) σ 1 9 = nI n := hz k
            refine And.intro (by rw [d1]; exact nI_ne0 h0 (by omega)) ?_
            refine cl (ct_draw (drT (loN n (Tq 1 σ) k)) σ) ?_
            refine And.intro (by rw [d2]; exact nI_ne0 h0 (by omega)) ?_
            rw [d1, d2]
            refine cl (ct_exchange_1 (show ix n (zS (loN n (Tq 1 σ) k 0 11)) < 8 by omega) (show ix n (zS (drT (loN n (Tq 1 σ) k) 0 11)) < 8 by omega) i1.1 i2.1 (drT (drT (loN n (Tq 1 σ) k))) σ) ?_
            refine go.2 [0, 1, 2] _ _ _ _ ?_
            exact ihk
        refine br_f b1 ?_
        refine br_t b2 ?_
        refine br_t (show 0 < σ 1 9 by rw [hnn]; exact nI_lt h0 (by omega)) ?_
        have L0 := L m 0 (by omega)
        rw [show putSq 1 (loN n (Tq 1 σ) 0) σ = σ from putSq_self 1 σ] at L0
        exact L0
      · generalize hτ : putSq 1 (loN n (Tq 1 σ) m) σ = τ
        have ft : τ 46 = flat (Tq 1 σ) := by rw [← hτ]; exact f46
        have nt : τ 46 1 = nI n := by rw [ft]; exact v.1.2.2.1
        have hM : ∀ U : Sg, U 0 9 = nI n → MS τ U 46 1 = nI n := fun U e => e
        refine Ct.of (by decide +kernel) zX5_lots (Nat.le_of_ble_eq_true rfl) (by decide) (fun X go => ?_)
        refine go.1 [37] 100 _ _ _ _ ?_
        have L : ∀ d k, k + d = m → X 37 [(0, .ref 45), (1, .int (nI m)), (2, .int (nI k))] [] (MS τ (loN n (Tq 1 σ) k)) := by
          intro d
          induction d with
          | zero =>
            intro k hk
            have hk : k = m := by omega
            subst hk
            refine go.1 [37] 60 _ _ _ _ ?_
            refine br_t (show nI k ≤ nI k from nI_le (Nat.le_refl _) (by omega)) ?_
            refine cl (ct_its (k := 0) (w := 1) (by decide) (by decide) (kv := 0) (wv := 1) rfl rfl τ (loN n (Tq 1 σ) k)) ?_
            refine Exists.intro (1) (And.intro ⟨rfl, by omega, by omega⟩ ?_)
            refine cl (ct_its (k := n - 1) (w := 1) (by omega) (by decide) (wv := 1) ?_ rfl τ (loN n (Tq 1 σ) k)) ?_
            · rw [hM _ (hz k)]
              exact pk_sub (a := n) (b := 1) (by omega)
            · exact And.intro rfl rfl
          | succ d ih =>
            intro k hk
            have ihk := ih (k + 1) (by omega)
            rw [nI_succ] at ihk
            have i1 := ix_n h0 hn8 (zS (loN n (Tq 1 σ) k 0 11))
            have i2 := ix_n h0 hn8 (zS (drT (loN n (Tq 1 σ) k) 0 11))
            refine go.1 [37] 60 _ _ _ _ ?_
            refine br_f (show ¬ nI m ≤ nI k from nI_ge (by omega) (by omega)) ?_
            refine cl (ct_drawM (loN n (Tq 1 σ) k) τ) ?_
            have d1 : MS τ (drT (loN n (Tq 1 σ) k)) 46 1 = nI n := hM _ (hz k)
            have d2 : MS τ (drT (drT (loN n (Tq 1 σ) k))) 46 1 = nI n := hM _ (hz k)
            refine Exists.intro (1) (And.intro ⟨rfl, by omega, by omega⟩ ?_)
            refine And.intro (by rw [d1]; exact nI_ne0 h0 (by omega)) ?_
            refine cl (ct_drawM (drT (loN n (Tq 1 σ) k)) τ) ?_
            refine Exists.intro (1) (And.intro ⟨rfl, by omega, by omega⟩ ?_)
            refine And.intro (by rw [d2]; exact nI_ne0 h0 (by omega)) ?_
            rw [d1, d2]
            refine cl (ct_swaps (show ix n (zS (loN n (Tq 1 σ) k 0 11)) < 8 by omega) (show ix n (zS (drT (loN n (Tq 1 σ) k) 0 11)) < 8 by omega) i1.1 i2.1 τ (drT (drT (loN n (Tq 1 σ) k)))) ?_
            refine go.2 [0, 1, 2] _ _ _ _ ?_
            exact ihk
        refine cl (inM 1 12 hn _) ?_
        refine br_f (by decide) ?_
        refine Exists.intro (1) (And.intro ⟨rfl, by omega, by omega⟩ ?_)
        refine br_f (show ¬ τ 46 1 = 0 by rw [nt]; exact nI_ne0 h0 (by omega)) ?_
        have L0 := L m 0 (by omega)
        rw [show MS τ (loN n (Tq 1 σ) 0) = τ from MSe ft] at L0
        exact L0
      · refine J_set h ⟨n, hh, VN m, h9⟩ (ZT_loN h0 hn8 z1 m) (fun j hj => ?_) (upr_in _ _ _) ?_ (fun i h1 h2 => ?_)
        · exact ((upr_out (show 1 + j ≠ 46 by omega)).trans (putSq_in (by omega))).symm
        · exact (upr_out (show 0 ≠ 46 by decide)).trans (putSq_out (by decide))
        · exact (upr_out h2).trans (putSq_out (by omega))
def gvT (T : Sg) (k v : Nat) : Sg := upr T 5 (upd (T 5) k (T 5 k - nI v))
theorem VT_gv {n h b g : Nat} {T : Sg} (v : VTb n h b T) {k x : Nat} (hg : g ≤ 99) (eg : T 5 k = nI g) (hx : x ≤ g) : VTb n h b (gvT T k x) := VT_goods v (a := g - x) (by omega) (by rw [eg]; exact pk_sub hx)
theorem ZT_gv {T : Sg} (z : ZT T) {k : Nat} (hk : k < 8) (x : Nat) : ZT (gvT T k x) := ⟨z.1, z.2.1, ⟨z.2.2.1.1, z.2.2.1.2.1, Zr_upd z.2.2.1.2.2.1 hk, z.2.2.1.2.2.2⟩, z.2.2.2⟩
theorem P_throwAway {σ : Sg} (h : J σ) (s nv : Int32) : Pair mX4_throwAway mX5_throwAway [.int s, .int nv] σ := by
  have f46 := J46 h
  obtain ⟨n, hh, v, h9⟩ := h.1
  have hn8 := v.1.1
  have z1 := h.2.1.1
  have z10 := h.2.1.2.1
  have z46 := J_z46 h
  have z48 := h.2.2.2.1.1
  cases hs : bI s 0 ((n : Int) - 1) with
  | false =>
      refine Pair_fd h 0 ?_ ?_
      · refine Ct.of (by decide +kernel) zX4_throwAway (Nat.le_of_ble_eq_true rfl) (by decide) (fun X go => ?_)
        refine go.1 [] 100 _ _ _ _ ?_
        refine cl (isS v hs) ?_
        refine cl (ah_bad h9 v.1.2.2.2 1 48 (by decide) false rfl) ?_
        refine br_f (by decide) ?_
        exact And.intro rfl rfl
      · refine Ct.of (by decide +kernel) zX5_throwAway (Nat.le_of_ble_eq_true rfl) (by decide) (fun X go => ?_)
        refine go.1 [] 100 _ _ _ _ ?_
        refine cl (isSM v (σ := tel σ 0) f46 hs) ?_
        refine br_t (by decide) ?_
        refine cl (ct_finds (w := 0) (by decide) fd0 _) ?_
        exact And.intro rfl rfl
  | true =>
    cases hn : bI nv 1 48 with
    | false =>
      refine Pair_fd h 0 ?_ ?_
      · refine Ct.of (by decide +kernel) zX4_throwAway (Nat.le_of_ble_eq_true rfl) (by decide) (fun X go => ?_)
        refine go.1 [] 100 _ _ _ _ ?_
        refine cl (isS v hs) ?_
        refine cl (ah_bad h9 v.1.2.2.2 1 48 (by decide) true hn) ?_
        refine br_f (by decide) ?_
        exact And.intro rfl rfl
      · refine Ct.of (by decide +kernel) zX5_throwAway (Nat.le_of_ble_eq_true rfl) (by decide) (fun X go => ?_)
        refine go.1 [] 100 _ _ _ _ ?_
        refine cl (isSM v (σ := tel σ 0) f46 hs) ?_
        refine br_f (by decide) ?_
        refine cl (isDM hn _) ?_
        refine br_t (by decide) ?_
        refine cl (ct_finds (w := 0) (by decide) fd0 _) ?_
        exact And.intro rfl rfl
    | true =>
      obtain ⟨m, hm1, hm2, en⟩ := bI_n hn (by decide) (by decide)
      by_cases late : 999 < hh + m
      · refine Pair_fd h 4 ?_ ?_
        · refine Ct.of (by decide +kernel) zX4_throwAway (Nat.le_of_ble_eq_true rfl) (by decide) (fun X go => ?_)
          refine go.1 [] 100 _ _ _ _ ?_
          refine cl (isS v hs) ?_
          refine cl (ah_late h9 v.1.2.2.2 1 48 (by decide) hn en (by omega) late) ?_
          refine br_f (by decide) ?_
          exact And.intro rfl rfl
        · refine Ct.of (by decide +kernel) zX5_throwAway (Nat.le_of_ble_eq_true rfl) (by decide) (fun X go => ?_)
          refine go.1 [] 100 _ _ _ _ ?_
          refine cl (isSM v (σ := tel σ 4) f46 hs) ?_
          refine br_f (by decide) ?_
          refine cl (isDM hn _) ?_
          refine br_f (by decide) ?_
          refine cl (tl h9 (σ := tel σ 4) f46 v.1.2.2.2 en (by omega) (decide_eq_true late)) ?_
          refine br_f (by decide) ?_
          refine cl (ct_finds (w := 4) (by decide) fd4 _) ?_
          exact And.intro rfl rfl
      · obtain ⟨k, hk, rfl⟩ := st_n v.1.1 hs
        have hk8 : k < 8 := by omega
        have hm : hh + m ≤ 2000 := by omega
        obtain ⟨g, hg, eg⟩ := v.2.2.2.1 k hk8
        have e6 : σ 6 k = nI g := eg
        obtain ⟨f, hfd⟩ : ∃ f : Nat → Int32, f = fun i => cn n m k (gvT (Tq 1 σ) k i) := ⟨_, rfl⟩
        obtain ⟨Ub, hUb⟩ : ∃ Ub : Nat → Sg, Ub = fun i => match i with | 0 => Tq 10 σ | i + 1 => hrsT n (gvT (Tq 1 σ) k i) m := ⟨_, rfl⟩
        have US : ∀ i, Ub (i + 1) = hrsT n (gvT (Tq 1 σ) k i) m := by intro i; rw [hUb]
        have zU : ∀ i, ZT (Ub i) := by
          intro i
          cases i with
          | zero => rw [hUb]; exact z10
          | succ i => rw [US]; exact ZT_hrs hn8 (ZT_gv z1 hk8 i) m
        have U0 : putSq 10 (Ub 0) σ = σ := by rw [hUb]; exact putSq_self 10 σ
        have cr : ∀ i, putSq 10 (Ub (i + 1)) σ 16 k = f i := by intro i; rw [US, hfd]; rfl
        refine ⟨nI (am f 0 (-1) (g + 1)).1, putSq 10 (Ub (g + 1)) σ, sv (putSq 10 (Ub (g + 1)) σ), ?_, ?_, J_tr h (zU (g + 1))⟩
        · refine Ct.of (by decide +kernel) zX4_throwAway (Nat.le_of_ble_eq_true rfl) (by decide) (fun X go => ?_)
          refine go.1 [29] 100 _ _ _ _ ?_
          have L : ∀ d i, i + d = g + 1 → X 29 [(0, .ref 0), (1, .int (nI k)), (2, .int nv), (3, .int 0), (4, .int (nI (am f 0 (-1) i).1)), (5, .int (am f 0 (-1) i).2), (6, .int (nI i))] [] (putSq 10 (Ub i) σ) := by
            intro d
            induction d with
            | zero =>
              intro i hi
              have hi : i = g + 1 := by omega
              subst hi
              refine go.1 [29] 60 _ _ _ _ ?_
              refine Exists.intro (k) (And.intro ⟨rfl, by omega, by omega⟩ ?_)
              refine br_t (show σ 6 k < nI (g + 1) by rw [e6]; exact nI_lt (by omega) (by omega)) ?_
              exact And.intro rfl rfl
            | succ d ih =>
              intro i hi
              have ihi := ih (i + 1) (by omega)
              rw [nI_succ] at ihi
              refine go.1 [29] 80 _ _ _ _ ?_
              refine Exists.intro (k) (And.intro ⟨rfl, by omega, by omega⟩ ?_)
              refine br_f (show ¬ σ 6 k < nI i by rw [e6]; exact nI_nlt (by omega) (by omega)) ?_
              refine cl (ct_becU (zU i) z1) ?_
              refine Exists.intro (k) (And.intro ⟨rfl, by omega, by omega⟩ ?_)
              refine Exists.intro (k) (And.intro ⟨rfl, by omega, by omega⟩ ?_)
              have es : up2 (putSq 10 (Tq 1 σ) σ) 15 k (σ 6 k - nI i) = putSq 10 (gvT (Tq 1 σ) k i) σ := put2 (o := 10) (j := 5) (by decide) k _
              have cp := ct_passHours_10 (VT_gv v hg eg (show i ≤ g by omega)) (show hh + m ≤ 2000 by omega) en σ
              rw [← es, ← US i] at cp
              refine cl cp ?_
              refine Exists.intro (k) (And.intro ⟨rfl, by omega, by omega⟩ ?_)
              refine And.intro (fun (q : putSq 10 (Ub (i + 1)) σ 16 k ≤ (am f 0 (-1) i).2) => ?_) (fun (q : ¬ putSq 10 (Ub (i + 1)) σ 16 k ≤ (am f 0 (-1) i).2) => ?_)
              · rw [cr] at q
                rw [am_f (fun z => Int32.not_lt.mpr q z)] at ihi
                exact ihi
              · rw [cr] at q
                rw [am_t (Int32.not_le.mp q), ← cr i] at ihi
                refine Exists.intro (k) (And.intro ⟨rfl, by omega, by omega⟩ ?_)
                exact ihi
          refine cl (isS v hs) ?_
          refine cl (ah_ok h9 v.1.2.2.2 1 48 (by decide) hn en (by omega) late) ?_
          refine br_t (by decide) ?_
          have L0 := L (g + 1) 0 (by omega)
          rw [U0] at L0
          exact L0
        · generalize hσ1 : putSq 10 (Ub (g + 1)) σ = σ1
          have f1 : σ1 46 = flat (Tq 1 σ) := by rw [← hσ1]; exact f46
          have z1' : Zr 78 (σ1 46) := by rw [← hσ1]; exact z46
          have z8' : Zr 78 (σ1 48) := by rw [← hσ1]; exact z48
          have fs : sv σ1 46 = flat (Tq 1 σ) := f1
          have e48 : sv σ1 48 (28 + 5 * k + 2) = nI g := by
            show σ1 46 _ = _
            rw [f1, flat_k hk8 (by decide)]
            exact eg
          have e46 : sv σ1 46 (28 + 5 * k + 2) = σ 6 k := by
            rw [fs, flat_k hk8 (by decide)]
            rfl
          refine Ct.of (by decide +kernel) zX5_throwAway (Nat.le_of_ble_eq_true rfl) (by decide) (fun X go => ?_)
          refine go.1 [49] 100 _ _ _ _ ?_
          have L : ∀ d i, i + d = g + 1 → X 49 [(0, .ref 45), (1, .int (nI k)), (2, .int nv), (3, .int (nI (am f 0 (-1) i).1)), (4, .int (am f 0 (-1) i).2), (5, .int (nI i))] [] (sv σ1) := by
            intro d
            induction d with
            | zero =>
              intro i hi
              have hi : i = g + 1 := by omega
              subst hi
              refine go.1 [49] 60 _ _ _ _ ?_
              refine cl (ct_at (a := k) (b := 2) rfl rfl _) ?_
              refine Exists.intro (28 + 5 * k + 2) (And.intro ⟨rfl, by omega, by omega⟩ ?_)
              refine br_t (show sv σ1 48 (28 + 5 * k + 2) < nI (g + 1) by rw [e48]; exact nI_lt (by omega) (by omega)) ?_
              exact And.intro rfl rfl
            | succ d ih =>
              intro i hi
              have ihi := ih (i + 1) (by omega)
              rw [nI_succ] at ihi
              have es : up2 (sv σ1) 46 (28 + 5 * k + 2) (sv σ1 46 (28 + 5 * k + 2) - nI i) = MS (sv σ1) (gvT (Tq 1 σ) k i) := by
                rw [e46]
                have := MS_upd (σ := sv σ1) (T := Tq 1 σ) hk8 (w := 2) (by decide) (σ 6 k - nI i)
                rw [MSe fs] at this
                exact this
              have ccn := ct_coinOf (σ := σ1) (VT_gv v hg eg (show i ≤ g by omega)) (show hh + m ≤ 2000 by omega) hk8 z1' en
              rw [show cn n m k (gvT (Tq 1 σ) k i) = f i by rw [hfd], ← es] at ccn
              refine go.1 [49] 80 _ _ _ _ ?_
              refine cl (ct_at (a := k) (b := 2) rfl rfl _) ?_
              refine Exists.intro (28 + 5 * k + 2) (And.intro ⟨rfl, by omega, by omega⟩ ?_)
              refine br_f (show ¬ sv σ1 48 (28 + 5 * k + 2) < nI i by rw [e48]; exact nI_nlt (by omega) (by omega)) ?_
              refine cl (ct_at (a := k) (b := 2) rfl rfl _) ?_
              refine Exists.intro (28 + 5 * k + 2) (And.intro ⟨rfl, by omega, by omega⟩ ?_)
              refine Exists.intro (28 + 5 * k + 2) (And.intro ⟨rfl, by omega, by omega⟩ ?_)
              refine cl ccn ?_
              refine And.intro (fun (q : f i ≤ (am f 0 (-1) i).2) => ?_) (fun (q : ¬ f i ≤ (am f 0 (-1) i).2) => ?_)
              · rw [am_f (fun z => Int32.not_lt.mpr q z)] at ihi
                refine br_t q ?_
                refine go.2 [0, 1, 2, 3, 4, 5] _ _ _ _ ?_
                exact ihi
              · rw [am_t (Int32.not_le.mp q)] at ihi
                refine br_f q ?_
                refine go.2 [0, 1, 2, 3, 4, 5] _ _ _ _ ?_
                exact ihi
          refine cl (isSM v f1 hs) ?_
          refine br_f (by decide) ?_
          refine cl (isDM hn _) ?_
          refine br_f (by decide) ?_
          refine cl (tl h9 f1 v.1.2.2.2 en (by omega) (decide_eq_false late)) ?_
          refine br_t (by decide) ?_
          refine cl (ct_sv z1' z8') ?_
          exact L (g + 1) 0 (by omega)
