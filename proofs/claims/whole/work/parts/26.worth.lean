/-! WORTH of places, changes: support -/
theorem atN_pos {T : Sg} {p : Int32} {b : Nat} : ∀ n, n ≤ 8 → b < 8 → atN T p n = nI b → b < n ∧ T 4 b = p
  | 0, _, hb8, h => absurd h (by
      intro q
      have : ∀ b, b < 8 → ¬ (-1 : Int32) = nI b := by decide
      exact this b hb8 q)
  | n + 1, hn, hb8, h => by
    unfold atN at h
    by_cases hp : T 4 n = p
    · rw [if_pos hp] at h
      have := (nI_eq (by omega) (by omega)).mp h
      subst this
      exact ⟨by omega, hp⟩
    · rw [if_neg hp] at h
      obtain ⟨h1, h2⟩ := atN_pos n (by omega) hb8 h
      exact ⟨by omega, h2⟩
theorem atN_neg {T : Sg} {p : Int32} : ∀ n, n ≤ 8 → atN T p n = -1 → ∀ j, j < n → ¬ T 4 j = p
  | 0, _, _, j, hj => absurd hj (by omega)
  | n + 1, hn, h, j, hj => by
    unfold atN at h
    by_cases hp : T 4 n = p
    · rw [if_pos hp] at h
      have : ∀ b, b < 8 → ¬ nI b = (-1 : Int32) := by decide
      exact absurd h (this n (by omega))
    · rw [if_neg hp] at h
      by_cases hjn : j = n
      · subst hjn; exact hp
      · exact atN_neg n (by omega) h j (by omega)
/-- where all are when two change -/
def swp (a b i : Nat) : Nat := if i = b then a else if i = a then b else i
theorem swT_4 (T : Sg) (a b i : Nat) : swT T a b 4 i = T 4 (swp a b i) := by
  show upd (upd (T 4) a (T 4 b)) b (T 4 a) i = _
  unfold upd swp
  by_cases h : i = b
  · rw [if_pos h, if_pos h]
  · rw [if_neg h, if_neg h]
    by_cases h2 : i = a
    · rw [if_pos h2, if_pos h2]
    · rw [if_neg h2, if_neg h2]
theorem swp_lt {a b i m : Nat} (ha : a < m) (hb : b < m) (hi : i < m) : swp a b i < m := by
  unfold swp
  split
  · exact ha
  · split
    · exact hb
    · exact hi
theorem swp_inj {a b i j : Nat} (h : swp a b i = swp a b j) : i = j := by
  unfold swp at h
  split at h <;> split at h <;> (try split at h) <;> (try split at h) <;> omega
theorem VT_sw {n h : Nat} {T : Sg} (v : VT n h T) {a b : Nat} (ha : a < n) (hb : b < n) : VT n h (swT T a b) := by
  have h8 := v.1.1
  obtain ⟨v1, w4, w3, w5, w6, w1, w0, wd, w8⟩ := v
  refine ⟨v1, fun k hk => ?_, w3, w5, w6, w1, w0, fun i j hi hj e => ?_, w8⟩
  · rw [swT_4]
    exact w4 _ (swp_lt (by omega) (by omega) hk)
  · rw [swT_4, swT_4] at e
    exact swp_inj (wd _ _ (swp_lt ha hb hi) (swp_lt ha hb hj) e)
theorem ZT_sw {T : Sg} (z : ZT T) {a b : Nat} (ha : a < 8) (hb : b < 8) : ZT (swT T a b) := by
  obtain ⟨z0, z12, ⟨z3, z4, z5, z6, z7⟩, z8⟩ := z
  exact ⟨z0, z12, ⟨z3, Zr_upd (Zr_upd z4 ha) hb, z5, z6, z7⟩, z8⟩
theorem swT_self (T : Sg) (a : Nat) : swT T a a = T := by
  unfold swT
  rw [upd_same]
  have : upd (T 4) a (T 4 a) = T 4 := upd_same _ _
  rw [this, upr_self]
/-- one comes to a place; who is there comes to its -/
def brT (T : Sg) (n k : Nat) (p : Int32) : Sg := if atN T p n < 0 then upr T 4 (upd (T 4) k p) else swT T k (atN T p n).toNatClampNeg
theorem br_hit {T : Sg} {n k b : Nat} {p : Int32} (hb8 : b < 8) (h : atN T p n = nI b) : brT T n k p = swT T k b := by
  unfold brT
  rw [h, if_neg (nI_pos (by omega)), nI_clamp (by omega)]
theorem br_none {T : Sg} {n k : Nat} {p : Int32} (h : atN T p n = -1) : brT T n k p = upr T 4 (upd (T 4) k p) := by
  unfold brT
  rw [h, if_pos (by decide)]
theorem VT_br {n h : Nat} {T : Sg} (v : VT n h T) {k a : Nat} (hk : k < n) (ha : a < 12) {p : Int32} (ep : p = nI a) : VT n h (brT T n k p) := by
  have h8 := v.1.1
  rcases atN_or T p n with e | ⟨b, hb, e⟩
  · rw [br_none e]
    have hno := atN_neg n h8 e
    obtain ⟨v1, w4, w3, w5, w6, w1, w0, wd, w8⟩ := v
    refine ⟨v1, fun j hj => ?_, w3, w5, w6, w1, w0, fun i j hi hj e => ?_, w8⟩
    · by_cases hjk : j = k
      · exact ⟨a, ha, by subst hjk; exact (upd_eq (T 4) j p).trans ep⟩
      · obtain ⟨x, hx, ex⟩ := w4 j hj
        exact ⟨x, hx, (upd_ne (f := T 4) hjk).trans ex⟩
    · have e : upd (T 4) k p i = upd (T 4) k p j := e
      by_cases hik : i = k
      · by_cases hjk : j = k
        · omega
        · rw [hik, upd_eq, upd_ne hjk] at e
          exact absurd e.symm (hno j hj)
      · by_cases hjk : j = k
        · rw [hjk, upd_eq, upd_ne hik] at e
          exact absurd e (hno i hi)
        · rw [upd_ne hik, upd_ne hjk] at e
          exact wd i j hi hj e
  · rw [br_hit (by omega) e]
    exact VT_sw v hk hb
theorem ZT_br {T : Sg} (z : ZT T) {n k : Nat} (hn : n ≤ 8) (hk : k < 8) (p : Int32) : ZT (brT T n k p) := by
  rcases atN_or T p n with e | ⟨b, hb, e⟩
  · rw [br_none e]
    obtain ⟨z0, z12, ⟨z3, z4, z5, z6, z7⟩, z8⟩ := z
    exact ⟨z0, z12, ⟨z3, Zr_upd z4 hk, z5, z6, z7⟩, z8⟩
  · rw [br_hit (by omega) e]
    exact ZT_sw z hk (by omega)
theorem br_self {n h : Nat} {T : Sg} (v : VT n h T) {k : Nat} (hk : k < n) : brT T n k (T 4 k) = T := by
  have h8 := v.1.1
  rw [br_hit (b := k) (by omega) (atN_hit rfl n hk v.2.2.2.2.2.2.2.1), swT_self]
theorem ct_becU {σ U : Sg} (zu : ZT U) (z1 : ZT (Tq 1 σ)) : Ct mX2_become [.ref 10, .ref 1] (putSq 10 U σ) (Ex none (putSq 10 (Tq 1 σ) σ)) := by
  have c := ct_become_10_1 (σ := putSq 10 U σ) (ZT_cong (fun j hj => (Tq_put j hj).symm) zu) z1
  rw [putSq_put] at c
  have e : ∀ j, j < 9 → Tq 1 (putSq 10 U σ) j = Tq 1 σ j := fun j hj => putSq_out (by omega)
  rw [putSq_cong e] at c
  exact c
theorem ct_bring {n h k a : Nat} {T : Sg} (v : VT n h T) (hk : k < n) (ha : a < 12) {p : Int32} (ep : p = nI a) (σ : Sg) : Ct mX2_bring [.ref 10, .int (nI k), .int p] (putSq 10 T σ) (Ex none (putSq 10 (brT T n k p) σ)) := by
  have h8 := v.1.1
  have cs := ct_stallAt_10 (σ := putSq 10 T σ) (VT_tr v) p
  rw [atN_cong (T := Tq 10 (putSq 10 T σ)) (U := T) rfl p n] at cs
  refine Ct.of (by decide +kernel) zX2_bring (Nat.le_of_ble_eq_true rfl) (by decide) (fun X go => ?_)
  refine go.1 [] 60 _ _ _ _ ?_
  rcases atN_or T p n with e | ⟨b, hb, e⟩
  · rw [br_none e]
    rw [e] at cs
    refine cl cs ?_
    refine br_t (by decide) ?_
    refine Exists.intro (k) (And.intro ⟨rfl, by omega, by omega⟩ ?_)
    refine And.intro rfl ?_
    show upr (putSq 10 T σ) (10 + 4) (upd (T 4) k p) = _
    rw [putSq_upr (by decide)]
  · have hp := (atN_pos n h8 (by omega) e).2
    rw [br_hit (by omega) e]
    rw [e] at cs
    refine cl cs ?_
    refine br_f (nI_pos (by omega)) ?_
    refine Exists.intro (k) (And.intro ⟨rfl, by omega, by omega⟩ ?_)
    refine Exists.intro (b) (And.intro ⟨rfl, by omega, by omega⟩ ?_)
    refine Exists.intro (k) (And.intro ⟨rfl, by omega, by omega⟩ ?_)
    refine And.intro rfl ?_
    show upr (upr (putSq 10 T σ) (10 + 4) (upd (T 4) b (T 4 k))) (10 + 4) (upd (upd (T 4) b (T 4 k)) k p) = _
    rw [upr_upr, putSq_upr (by decide)]
    unfold swT
    rw [hp]
    congr 2
    funext i
    unfold upd
    by_cases hik : i = k
    · by_cases hib : i = b
      · rw [if_pos hik, if_pos hib]
        rw [← hp, ← hib, hik]
      · rw [if_pos hik, if_neg hib, if_pos hik]
    · by_cases hib : i = b
      · rw [if_neg hik, if_pos hib, if_pos hib]
      · rw [if_neg hik, if_neg hib, if_neg hib, if_neg hik]
/-- COIN of one, m hours on -/
def cn (n m k : Nat) (T : Sg) : Int32 := hrsT n T m 6 k
theorem cn_n {n h m k : Nat} {T : Sg} (v : VT n h T) (hm : h + m ≤ 2000) (hk : k < 8) : ∃ c, c ≤ 990000 ∧ cn n m k T = nI c := by
  obtain ⟨c, hc, e⟩ := (VT_hrs v m hm).2.2.2.2.1 k hk
  exact ⟨c, by omega, e⟩
theorem ct_coinFrom {n h m k a : Nat} {σ U : Sg} (v : VT n h (Tq 1 σ)) (z1 : ZT (Tq 1 σ)) (zu : ZT U) (hm : h + m ≤ 2000) (hk : k < n) (ha : a < 12) {p nv : Int32} (ep : p = nI a) (en : nv = nI m) : Ct mX4_coinFrom [.ref 0, .int (nI k), .int p, .int nv] (putSq 10 U σ) (Ex (some (.int (cn n m k (brT (Tq 1 σ) n k p)))) (putSq 10 (hrsT n (brT (Tq 1 σ) n k p) m) σ)) := by
  have h8 := v.1.1
  refine Ct.of (by decide +kernel) zX4_coinFrom (Nat.le_of_ble_eq_true rfl) (by decide) (fun X go => ?_)
  refine go.1 [] 60 _ _ _ _ ?_
  refine cl (ct_becU zu z1) ?_
  refine cl (ct_bring v hk ha ep σ) ?_
  refine cl (ct_passHours_10 (VT_br v hk ha ep) hm en σ) ?_
  refine Exists.intro (k) (And.intro ⟨rfl, by omega, by omega⟩ ?_)
  exact And.intro rfl rfl
theorem ct_swapAhead {n h m a b : Nat} {σ U : Sg} (v : VT n h (Tq 1 σ)) (z1 : ZT (Tq 1 σ)) (zu : ZT U) (hm : h + m ≤ 2000) (ha : a < n) (hb : b < n) {nv : Int32} (en : nv = nI m) : Ct mX4_swapAhead [.ref 0, .int (nI a), .int (nI b), .int nv] (putSq 10 U σ) (Ex none (putSq 10 (hrsT n (swT (Tq 1 σ) a b) m) σ)) := by
  have h8 := v.1.1
  refine Ct.of (by decide +kernel) zX4_swapAhead (Nat.le_of_ble_eq_true rfl) (by decide) (fun X go => ?_)
  refine go.1 [] 60 _ _ _ _ ?_
  refine cl (ct_becU zu z1) ?_
  refine cl (ct_exchange_10 (show a < 8 by omega) (show b < 8 by omega) rfl rfl (Tq 1 σ) σ) ?_
  refine cl (ct_passHours_10 (VT_sw v ha hb) hm en σ) ?_
  exact And.intro rfl rfl
theorem ct_coinOf {n h m k : Nat} {σ T' : Sg} (v : VT n h T') (hm : h + m ≤ 2000) (hk : k < 8) (z46 : Zr 78 (σ 46)) {nv : Int32} (en : nv = nI m) : Ct mX5_coinOf [.ref 45, .int (nI k), .int nv] (MS (sv σ) T') (Ex (some (.int (cn n m k T'))) (sv σ)) := by
  refine Ct.of (by decide +kernel) zX5_coinOf (Nat.le_of_ble_eq_true rfl) (by decide) (fun X go => ?_)
  refine go.1 [] 60 _ _ _ _ ?_
  refine cl (ct_hoursGo v hm en (sv σ)) ?_
  refine cl (ct_its (w := 3) hk (by decide) (kv := nI k) rfl (wv := 3) rfl (sv σ) _) ?_
  refine cl (ct_bk z46 _) ?_
  exact And.intro rfl rfl
theorem ct_coin0 {n h m k : Nat} {σ T : Sg} (v : VT n h T) (f46 : σ 46 = flat T) (hm : h + m ≤ 2000) (hk : k < 8) {nv : Int32} (en : nv = nI m) : Ct mX5_coinOf [.ref 45, .int (nI k), .int nv] (sv σ) (Ex (some (.int (cn n m k T))) (sv σ)) := by
  have c := ct_coinOf (σ := σ) v hm hk (by rw [f46]; exact flat_z T) en
  rw [MSe (show sv σ 46 = flat T from f46)] at c
  exact c
theorem ct_worthOf {n h m k a : Nat} {σ T : Sg} (v : VT n h T) (f46 : σ 46 = flat T) (hm : h + m ≤ 2000) (hk : k < n) (ha : a < 12) {p nv : Int32} (ep : p = nI a) (en : nv = nI m) : Ct mX5_worthOf [.ref 45, .int (nI k), .int p, .int nv] (sv σ) (Ex (some (.int (cn n m k (brT T n k p) - cn n m k T))) (sv σ)) := by
  have h8 := v.1.1
  have hk8 : k < 8 := by omega
  have z46 : Zr 78 (σ 46) := by rw [f46]; exact flat_z T
  have fs : sv σ 46 = flat T := f46
  have cs := ct_stallAtM v p (sv σ)
  rw [MSe fs] at cs
  have cb := ct_coinOf (σ := σ) (VT_br v hk ha ep) hm hk8 z46 en
  refine Ct.of (by decide +kernel) zX5_worthOf (Nat.le_of_ble_eq_true rfl) (by decide) (fun X go => ?_)
  refine go.1 [] 60 _ _ _ _ ?_
  refine cl (ct_coin0 v f46 hm hk8 en) ?_
  rcases atN_or T p n with e | ⟨b, hb, e⟩
  · rw [br_none e] at cb ⊢
    rw [e] at cs
    refine cl cs ?_
    refine br_t (by decide) ?_
    refine cl (ct_at (a := k) (b := 1) rfl rfl _) ?_
    refine Exists.intro (28 + 5 * k + 1) (And.intro ⟨rfl, by omega, by omega⟩ ?_)
    have es : up2 (sv σ) 46 (28 + 5 * k + 1) p = MS (sv σ) (upr T 4 (upd (T 4) k p)) := by
      have := MS_upd (σ := sv σ) (T := T) hk8 (w := 1) (by decide) p
      rw [MSe fs] at this
      exact this
    rw [← es] at cb
    refine cl cb ?_
    exact And.intro rfl rfl
  · rw [br_hit (by omega) e] at cb ⊢
    rw [e] at cs
    refine cl cs ?_
    refine br_f (nI_pos (by omega)) ?_
    have cw := ct_swaps hk8 (show b < 8 by omega) (av := nI k) (bv := nI b) rfl rfl (sv σ) T
    rw [MSe fs] at cw
    refine cl cw ?_
    refine cl cb ?_
    exact And.intro rfl rfl
theorem P_worth {σ : Sg} (h : J σ) (s p nv : Int32) : Pair mX4_worth mX5_worth [.int s, .int p, .int nv] σ := by
  have f46 := J46 h
  obtain ⟨n, hh, v, h9⟩ := h.1
  have hn8 := v.1.1
  have z1 := h.2.1.1
  have z10 := h.2.1.2.1
  have z46 := J_z46 h
  have z48 := h.2.2.2.1.1
  cases hs : bI s 0 ((n : Int) - 1) with
  | false =>
      refine Pair_fd h 0 ?_ ?_
      · refine Ct.of (by decide +kernel) zX4_worth (Nat.le_of_ble_eq_true rfl) (by decide) (fun X go => ?_)
        refine go.1 [] 100 _ _ _ _ ?_
        refine cl (isS v hs) ?_
        refine br_t (by decide) ?_
        refine cl (ah_bad h9 v.1.2.2.2 1 48 (by decide) false rfl) ?_
        refine br_f (by decide) ?_
        exact And.intro rfl rfl
      · refine Ct.of (by decide +kernel) zX5_worth (Nat.le_of_ble_eq_true rfl) (by decide) (fun X go => ?_)
        refine go.1 [] 100 _ _ _ _ ?_
        refine cl (isSM v (σ := tel σ 0) f46 hs) ?_
        refine br_t (by decide) ?_
        refine cl (ct_finds (w := 0) (by decide) fd0 _) ?_
        exact And.intro rfl rfl
  | true =>
    cases hp : bI p 0 11 with
    | false =>
      refine Pair_fd h 0 ?_ ?_
      · refine Ct.of (by decide +kernel) zX4_worth (Nat.le_of_ble_eq_true rfl) (by decide) (fun X go => ?_)
        refine go.1 [] 100 _ _ _ _ ?_
        refine cl (isS v hs) ?_
        refine br_f (by decide) ?_
        refine cl (isP hp _) ?_
        refine br_t (by decide) ?_
        refine cl (ah_bad h9 v.1.2.2.2 1 48 (by decide) false rfl) ?_
        refine br_f (by decide) ?_
        exact And.intro rfl rfl
      · refine Ct.of (by decide +kernel) zX5_worth (Nat.le_of_ble_eq_true rfl) (by decide) (fun X go => ?_)
        refine go.1 [] 100 _ _ _ _ ?_
        refine cl (isSM v (σ := tel σ 0) f46 hs) ?_
        refine br_f (by decide) ?_
        refine cl (isPM hp _) ?_
        refine br_t (by decide) ?_
        refine cl (ct_finds (w := 0) (by decide) fd0 _) ?_
        exact And.intro rfl rfl
    | true =>
      cases hn : bI nv 1 48 with
      | false =>
        refine Pair_fd h 0 ?_ ?_
        · refine Ct.of (by decide +kernel) zX4_worth (Nat.le_of_ble_eq_true rfl) (by decide) (fun X go => ?_)
          refine go.1 [] 100 _ _ _ _ ?_
          refine cl (isS v hs) ?_
          refine br_f (by decide) ?_
          refine cl (isP hp _) ?_
          refine br_f (by decide) ?_
          refine cl (ah_bad h9 v.1.2.2.2 1 48 (by decide) true hn) ?_
          refine br_f (by decide) ?_
          exact And.intro rfl rfl
        · refine Ct.of (by decide +kernel) zX5_worth (Nat.le_of_ble_eq_true rfl) (by decide) (fun X go => ?_)
          refine go.1 [] 100 _ _ _ _ ?_
          refine cl (isSM v (σ := tel σ 0) f46 hs) ?_
          refine br_f (by decide) ?_
          refine cl (isPM hp _) ?_
          refine br_f (by decide) ?_
          refine cl (isDM hn _) ?_
          refine br_t (by decide) ?_
          refine cl (ct_finds (w := 0) (by decide) fd0 _) ?_
          exact And.intro rfl rfl
      | true =>
        obtain ⟨m, hm1, hm2, en⟩ := bI_n hn (by decide) (by decide)
        by_cases late : 999 < hh + m
        · refine Pair_fd h 4 ?_ ?_
          · refine Ct.of (by decide +kernel) zX4_worth (Nat.le_of_ble_eq_true rfl) (by decide) (fun X go => ?_)
            refine go.1 [] 100 _ _ _ _ ?_
            refine cl (isS v hs) ?_
            refine br_f (by decide) ?_
            refine cl (isP hp _) ?_
            refine br_f (by decide) ?_
            refine cl (ah_late h9 v.1.2.2.2 1 48 (by decide) hn en (by omega) late) ?_
            refine br_f (by decide) ?_
            exact And.intro rfl rfl
          · refine Ct.of (by decide +kernel) zX5_worth (Nat.le_of_ble_eq_true rfl) (by decide) (fun X go => ?_)
            refine go.1 [] 100 _ _ _ _ ?_
            refine cl (isSM v (σ := tel σ 4) f46 hs) ?_
            refine br_f (by decide) ?_
            refine cl (isPM hp _) ?_
            refine br_f (by decide) ?_
            refine cl (isDM hn _) ?_
            refine br_f (by decide) ?_
            refine cl (tl h9 (σ := tel σ 4) f46 v.1.2.2.2 en (by omega) (decide_eq_true late)) ?_
            refine br_f (by decide) ?_
            refine cl (ct_finds (w := 4) (by decide) fd4 _) ?_
            exact And.intro rfl rfl
        · obtain ⟨a, -, ha, ep⟩ := bI_n hp (by decide) (by decide)
          have ha : a < 12 := by omega
          obtain ⟨k, hk, rfl⟩ := st_n v.1.1 hs
          have hk8 : k < 8 := by omega
          have hm : hh + m ≤ 2000 := by omega
          obtain ⟨e4, p12⟩ := VTpl v hk8
          have c0 := ct_coinFrom v z1 z10 hm hk p12 (p := Tq 1 σ 4 k) e4 en
          rw [putSq_self, br_self v hk] at c0
          refine ⟨cn n m k (brT (Tq 1 σ) n k p) - cn n m k (Tq 1 σ), putSq 10 (hrsT n (brT (Tq 1 σ) n k p) m) σ, sv (putSq 10 (hrsT n (brT (Tq 1 σ) n k p) m) σ), ?_, ?_, J_tr h (ZT_hrs hn8 (ZT_br z1 hn8 hk8 p) m)⟩
          · refine Ct.of (by decide +kernel) zX4_worth (Nat.le_of_ble_eq_true rfl) (by decide) (fun X go => ?_)
            refine go.1 [] 100 _ _ _ _ ?_
            refine cl (isS v hs) ?_
            refine br_f (by decide) ?_
            refine cl (isP hp _) ?_
            refine br_f (by decide) ?_
            refine cl (ah_ok h9 v.1.2.2.2 1 48 (by decide) hn en (by omega) late) ?_
            refine br_t (by decide) ?_
            refine Exists.intro (k) (And.intro ⟨rfl, by omega, by omega⟩ ?_)
            refine cl (c0) ?_
            refine cl (ct_coinFrom v z1 (ZT_hrs hn8 z1 m) hm hk ha ep en) ?_
            exact And.intro rfl rfl
          · generalize hσ1 : putSq 10 (hrsT n (brT (Tq 1 σ) n k p) m) σ = σ1
            have f1 : σ1 46 = flat (Tq 1 σ) := by rw [← hσ1]; exact f46
            have z1' : Zr 78 (σ1 46) := by rw [← hσ1]; exact z46
            have z8' : Zr 78 (σ1 48) := by rw [← hσ1]; exact z48
            refine Ct.of (by decide +kernel) zX5_worth (Nat.le_of_ble_eq_true rfl) (by decide) (fun X go => ?_)
            refine go.1 [] 100 _ _ _ _ ?_
            refine cl (isSM v f1 hs) ?_
            refine br_f (by decide) ?_
            refine cl (isPM hp _) ?_
            refine br_f (by decide) ?_
            refine cl (isDM hn _) ?_
            refine br_f (by decide) ?_
            refine cl (tl h9 f1 v.1.2.2.2 en (by omega) (decide_eq_false late)) ?_
            refine br_t (by decide) ?_
            refine cl (ct_sv z1' z8') ?_
            refine cl (ct_worthOf v f1 hm hk ha ep en) ?_
            exact And.intro rfl rfl
/-- the first best -/
def am (f : Nat → Int32) (b0 : Nat) (c0 : Int32) : Nat → Nat × Int32
  | 0 => (b0, c0)
  | i + 1 => if (am f b0 c0 i).2 < f i then (i, f i) else am f b0 c0 i
theorem am_t {f : Nat → Int32} {b0 : Nat} {c0 : Int32} {i : Nat} (h : (am f b0 c0 i).2 < f i) : am f b0 c0 (i + 1) = (i, f i) := if_pos h
theorem am_f {f : Nat → Int32} {b0 : Nat} {c0 : Int32} {i : Nat} (h : ¬ (am f b0 c0 i).2 < f i) : am f b0 c0 (i + 1) = am f b0 c0 i := if_neg h
