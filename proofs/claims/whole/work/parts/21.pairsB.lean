/-! PAIRS further, by program (p21.py) -/
theorem isP {p : Int32} {b : Bool} (h : bI p 0 11 = b) (σ : Sg) : Ct mX4_isPlace [.int p] σ (Ex (some (.int (zb b))) σ) := by rw [← h]; exact ctZ_isPlace p σ
theorem isK {p : Int32} {b : Bool} (h : bI p 0 6 = b) (σ : Sg) : Ct mX4_isKind [.int p] σ (Ex (some (.int (zb b))) σ) := by rw [← h]; exact ctZ_isKind p σ
theorem isPo {p : Int32} {b : Bool} (h : bI p 0 9 = b) (σ : Sg) : Ct mX4_isSpot [.int p] σ (Ex (some (.int (zb b))) σ) := by rw [← h]; exact ctZ_isSpot p σ
theorem isSh {p : Int32} {b : Bool} (h : bI p 0 3 = b) (σ : Sg) : Ct mX4_isSheet [.int p] σ (Ex (some (.int (zb b))) σ) := by rw [← h]; exact ctZ_isSheet p σ
theorem isPM {p : Int32} {b : Bool} (h : bI p 0 11 = b) (σ : Sg) : Ct mX5_isPlace [.int p] σ (Ex (some (.int (zb b))) σ) := by rw [← h]; exact ct_isPlaceM p σ
theorem isSpM {p : Int32} {b : Bool} (h : bI p 0 96 = b) (σ : Sg) : Ct mX5_isSpan [.int p] σ (Ex (some (.int (zb b))) σ) := by rw [← h]; exact ct_isSpan p σ
theorem isDM {p : Int32} {b : Bool} (h : bI p 1 48 = b) (σ : Sg) : Ct mX5_isDays [.int p] σ (Ex (some (.int (zb b))) σ) := by rw [← h]; exact ct_isDays p σ
theorem isOM {p : Int32} {b : Bool} (h : bI p 0 3 = b) (σ : Sg) : Ct mX5_isOne [.int p] σ (Ex (some (.int (zb b))) σ) := by rw [← h]; exact ct_isOne p σ
theorem inM {x : Int32} (a b : Int32) {la lb : Int64} {z : Bool} (h : bI x a.toInt b.toInt = z) (σ : Sg) (ea : la = a.toInt64 := by decide) (eb : lb = b.toInt64 := by decide) : Ct mX5_in [.long x.toInt64, .long la, .long lb] σ (Ex (some (.int (zb z))) σ) := by rw [← h]; exact ct_inI x a b ea eb σ
theorem isS {σ : Sg} {n hh : Nat} (v : VT n hh (Tq 1 σ)) {p : Int32} {b : Bool} (h : bI p 0 ((n : Int) - 1) = b) : Ct mX4_isStall [.ref 0, .int p] σ (Ex (some (.int (zb b))) σ) := by rw [← h]; exact ctZ_isStall v.1.1 v.1.2.2.1 p
theorem isSM {σ : Sg} {n hh : Nat} {T : Sg} (v : VT n hh T) (f : σ 46 = flat T) {p : Int32} {b : Bool} (h : bI p 0 ((n : Int) - 1) = b) : Ct mX5_isStall [.ref 45, .int p] σ (Ex (some (.int (zb b))) σ) := by rw [← h]; exact ct_isStallM v.1.1 (by rw [f]; exact v.1.2.2.1) p
theorem MSe {σ T : Sg} (f : σ 46 = flat T) : MS σ T = σ := by
  show upr σ 46 (flat T) = σ
  rw [← f, upr_self]
theorem st_n {n : Nat} {p : Int32} (hn : n ≤ 8) (h : bI p 0 ((n : Int) - 1) = true) : ∃ k, k < n ∧ p = nI k := by
  obtain ⟨k, -, h1, h2⟩ := bI_n h (by decide) (by omega)
  exact ⟨k, by omega, h2⟩
theorem VT_row0 {n h : Nat} {T : Sg} (v : VT n h T) {k : Nat} {x : Int32} (hk : (k = 8 ∧ ∃ a, a < 12 ∧ x = nI a) ∨ k = 11) : VT n h (upr T 0 (upd (T 0) k x)) := by
  have r : ∀ j, j ≠ 0 → upr T 0 (upd (T 0) k x) j = T j := fun j hj => upr_out hj
  obtain ⟨⟨v1, v2, v3, v4⟩, w4, w3, w5, w6, w1, w0, wd, w8⟩ := v
  unfold VT VTb
  rw [r 4 (by decide), r 3 (by decide), r 5 (by decide), r 6 (by decide), r 1 (by decide), r 8 (by decide), upr_in]
  refine ⟨⟨v1, v2, by rw [upd_ne (by omega)]; exact v3, by rw [upd_ne (by omega)]; exact v4⟩, w4, w3, w5, w6, w1, ?_, wd, w8⟩
  rcases hk with ⟨rfl, hx⟩ | rfl
  · rw [upd_eq]; exact hx
  · rw [upd_ne (by decide)]; exact w0
theorem ZT_row0 {T : Sg} (z : ZT T) {k : Nat} {x : Int32} (hk : 8 ≤ k ∧ k < 12) : ZT (upr T 0 (upd (T 0) k x)) := ⟨fun j hj => by rw [upr_in, upd_ne (by omega)]; exact z.1 j hj, z.2⟩

theorem P_shade {σ : Sg} (h : J σ) (p z : Int32) : Pair mX4_shade mX5_shade [.int p, .int z] σ := by
  cases hp : bI p 0 11 with
  | false =>
      refine Pair_fd h 0 ?_ ?_
      · refine Ct.of (by decide +kernel) zX4_shade (Nat.le_of_ble_eq_true rfl) (by decide) (fun X go => ?_)
        refine go.1 [] 100 _ _ _ _ ?_
        refine cl (isP hp _) ?_
        refine br_t (by decide) ?_
        refine cl (ct_fd (w := 0) (by decide) rfl _) ?_
        exact And.intro rfl rfl
      · refine Ct.of (by decide +kernel) zX5_shade (Nat.le_of_ble_eq_true rfl) (by decide) (fun X go => ?_)
        refine go.1 [] 100 _ _ _ _ ?_
        refine cl (isPM hp _) ?_
        refine br_t (by decide) ?_
        refine cl (ct_finds (w := 0) (by decide) fd0 _) ?_
        exact And.intro rfl rfl
  | true =>
      obtain ⟨a, -, ha, rfl⟩ := bI_n hp (by decide) (by decide)
      have ha : a < 12 := by omega
      have f46 := J46 h
      have er : σ 3 a = σ 46 (16 + a) := by rw [f46, flat_s ha]; rfl
      obtain ⟨x, hx, hx1, hx2⟩ : ∃ x : Int32, (x = if z = 0 then 0 else 1) ∧ (z = 0 → x = 0) ∧ (¬ z = 0 → x = 1) := ⟨_, rfl, fun q => if_pos q, fun q => if_neg q⟩
      refine ⟨σ 3 a, up2 σ 3 a x, up2 (up2 σ 3 a x) 46 (16 + a) x, ?_, ?_, ?_⟩
      · refine Ct.of (by decide +kernel) zX4_shade (Nat.le_of_ble_eq_true rfl) (by decide) (fun X go => ?_)
        refine go.1 [] 100 _ _ _ _ ?_
        refine cl (isP hp _) ?_
        refine br_f (by decide) ?_
        refine Exists.intro (a) (And.intro ⟨rfl, by omega, by omega⟩ ?_)
        refine And.intro (fun q => ?_) (fun q => ?_)
        · rw [hx1 q]
          refine Exists.intro (a) (And.intro ⟨rfl, by omega, by omega⟩ ?_)
          exact And.intro rfl rfl
        · rw [hx2 q]
          refine Exists.intro (a) (And.intro ⟨rfl, by omega, by omega⟩ ?_)
          exact And.intro rfl rfl
      · refine Ct.of (by decide +kernel) zX5_shade (Nat.le_of_ble_eq_true rfl) (by decide) (fun X go => ?_)
        refine go.1 [] 100 _ _ _ _ ?_
        refine cl (isPM hp _) ?_
        refine br_f (by decide) ?_
        refine Exists.intro (16 + a) (And.intro ⟨show nI 16 + nI a = _ from nI_add 16 a, by omega, by omega⟩ ?_)
        rw [er]
        refine And.intro (fun q => ?_) (fun q => ?_)
        · rw [hx1 q]
          refine Exists.intro (16 + a) (And.intro ⟨show nI 16 + nI a = _ from nI_add 16 a, by omega, by omega⟩ ?_)
          exact And.intro rfl rfl
        · rw [hx2 q]
          refine Exists.intro (16 + a) (And.intro ⟨show nI 16 + nI a = _ from nI_add 16 a, by omega, by omega⟩ ?_)
          exact And.intro rfl rfl
      · obtain ⟨n, hh, v, h9⟩ := h.1
        have zz := h.2.1.1
        refine J_row h (r := 2) (by decide) (f := upd (σ 3) a x) ⟨n, hh, ⟨v.1, v.2.1, v.2.2.1, v.2.2.2.1, v.2.2.2.2.1, v.2.2.2.2.2⟩, h9⟩ ⟨zz.1, ⟨zz.2.1.1, Zr_upd zz.2.1.2 ha⟩, zz.2.2⟩ ?_
        show upd (σ 46) (16 + a) x = _
        rw [f46, flat_upd_s ha]
        rfl

theorem P_spring {σ : Sg} (h : J σ) (p : Int32) : Pair mX4_spring mX5_spring [.int p] σ := by
  cases hp : bI p 0 11 with
  | false =>
      refine Pair_fd h 0 ?_ ?_
      · refine Ct.of (by decide +kernel) zX4_spring (Nat.le_of_ble_eq_true rfl) (by decide) (fun X go => ?_)
        refine go.1 [] 100 _ _ _ _ ?_
        refine cl (isP hp _) ?_
        refine br_t (by decide) ?_
        refine cl (ct_fd (w := 0) (by decide) rfl _) ?_
        exact And.intro rfl rfl
      · refine Ct.of (by decide +kernel) zX5_spring (Nat.le_of_ble_eq_true rfl) (by decide) (fun X go => ?_)
        refine go.1 [] 100 _ _ _ _ ?_
        refine cl (isPM hp _) ?_
        refine br_t (by decide) ?_
        refine cl (ct_finds (w := 0) (by decide) fd0 _) ?_
        exact And.intro rfl rfl
  | true =>
      obtain ⟨a, -, ha, ea⟩ := bI_n hp (by decide) (by decide)
      have ha : a < 12 := by omega
      have f46 := J46 h
      have er : σ 1 8 = σ 46 2 := by rw [f46]; rfl
      refine ⟨σ 1 8, up2 σ 1 8 p, up2 (up2 σ 1 8 p) 46 2 p, ?_, ?_, ?_⟩
      · refine Ct.of (by decide +kernel) zX4_spring (Nat.le_of_ble_eq_true rfl) (by decide) (fun X go => ?_)
        refine go.1 [] 100 _ _ _ _ ?_
        refine cl (isP hp _) ?_
        refine br_f (by decide) ?_
        refine And.intro ⟨rfl, rfl⟩ ?_
        exact And.intro rfl rfl
      · refine Ct.of (by decide +kernel) zX5_spring (Nat.le_of_ble_eq_true rfl) (by decide) (fun X go => ?_)
        refine go.1 [] 100 _ _ _ _ ?_
        refine cl (isPM hp _) ?_
        refine br_f (by decide) ?_
        refine Exists.intro (2) (And.intro ⟨rfl, by omega, by omega⟩ ?_)
        refine Exists.intro (2) (And.intro ⟨rfl, by omega, by omega⟩ ?_)
        rw [er]
        exact And.intro rfl rfl
      · obtain ⟨n, hh, v, h9⟩ := h.1
        refine J_row h (r := 0) (by decide) (f := upd (σ 1) 8 p) ⟨n, hh, VT_row0 v (Or.inl ⟨rfl, a, ha, ea⟩), h9⟩ (ZT_row0 h.2.1.1 (by decide)) ?_
        show upd (σ 46) 2 p = _
        rw [f46, flat_upd_f (Or.inl ⟨rfl, rfl⟩)]
        rfl
theorem P_seed {σ : Sg} (h : J σ) (p : Int32) : Pair mX4_seed mX5_seed [.int p] σ := by
      have f46 := J46 h
      have er : σ 1 11 = σ 46 3 := by rw [f46]; rfl
      refine ⟨σ 1 11, up2 σ 1 11 p, up2 (up2 σ 1 11 p) 46 3 p, ?_, ?_, ?_⟩
      · refine Ct.of (by decide +kernel) zX4_seed (Nat.le_of_ble_eq_true rfl) (by decide) (fun X go => ?_)
        refine go.1 [] 100 _ _ _ _ ?_
        refine And.intro ⟨rfl, rfl⟩ ?_
        exact And.intro rfl rfl
      · refine Ct.of (by decide +kernel) zX5_seed (Nat.le_of_ble_eq_true rfl) (by decide) (fun X go => ?_)
        refine go.1 [] 100 _ _ _ _ ?_
        refine Exists.intro (3) (And.intro ⟨rfl, by omega, by omega⟩ ?_)
        refine Exists.intro (3) (And.intro ⟨rfl, by omega, by omega⟩ ?_)
        rw [er]
        exact And.intro rfl rfl
      · obtain ⟨n, hh, v, h9⟩ := h.1
        refine J_row h (r := 0) (by decide) (f := upd (σ 1) 11 p) ⟨n, hh, VT_row0 v (Or.inr rfl), h9⟩ (ZT_row0 h.2.1.1 (by decide)) ?_
        show upd (σ 46) 3 p = _
        rw [f46, flat_upd_f (Or.inr (Or.inr ⟨rfl, rfl⟩))]
        rfl
theorem P_offers {σ : Sg} (h : J σ) (s p : Int32) : Pair mX4_offers mX5_offers [.int s, .int p] σ := by
  have f46 := J46 h
  obtain ⟨n, hh, v, h9⟩ := h.1
  cases hs : bI s 0 ((n : Int) - 1) with
  | false =>
      refine Pair_fd h 0 ?_ ?_
      · refine Ct.of (by decide +kernel) zX4_offers (Nat.le_of_ble_eq_true rfl) (by decide) (fun X go => ?_)
        refine go.1 [] 100 _ _ _ _ ?_
        refine cl (isS v hs) ?_
        refine br_t (by decide) ?_
        refine cl (ct_fd (w := 0) (by decide) rfl _) ?_
        exact And.intro rfl rfl
      · refine Ct.of (by decide +kernel) zX5_offers (Nat.le_of_ble_eq_true rfl) (by decide) (fun X go => ?_)
        refine go.1 [] 100 _ _ _ _ ?_
        refine cl (isSM v (σ := tel σ 0) f46 hs) ?_
        refine br_t (by decide) ?_
        refine cl (ct_finds (w := 0) (by decide) fd0 _) ?_
        exact And.intro rfl rfl
  | true =>
    cases hp : bI p 0 11 with
    | false =>
      refine Pair_fd h 0 ?_ ?_
      · refine Ct.of (by decide +kernel) zX4_offers (Nat.le_of_ble_eq_true rfl) (by decide) (fun X go => ?_)
        refine go.1 [] 100 _ _ _ _ ?_
        refine cl (isS v hs) ?_
        refine br_f (by decide) ?_
        refine cl (isP hp _) ?_
        refine br_t (by decide) ?_
        refine cl (ct_fd (w := 0) (by decide) rfl _) ?_
        exact And.intro rfl rfl
      · refine Ct.of (by decide +kernel) zX5_offers (Nat.le_of_ble_eq_true rfl) (by decide) (fun X go => ?_)
        refine go.1 [] 100 _ _ _ _ ?_
        refine cl (isSM v (σ := tel σ 0) f46 hs) ?_
        refine br_f (by decide) ?_
        refine cl (isPM hp _) ?_
        refine br_t (by decide) ?_
        refine cl (ct_finds (w := 0) (by decide) fd0 _) ?_
        exact And.intro rfl rfl
    | true =>
      obtain ⟨a, -, ha, ea⟩ := bI_n hp (by decide) (by decide)
      have ha : a < 12 := by omega
      obtain ⟨k, hk, ek⟩ := st_n v.1.1 hs
      have hn8 := v.1.1
      refine ⟨offT (Tq 1 σ) (Tq 1 σ 3 k) a, σ, σ, ?_, ?_, h⟩
      · refine Ct.of (by decide +kernel) zX4_offers (Nat.le_of_ble_eq_true rfl) (by decide) (fun X go => ?_)
        refine go.1 [] 100 _ _ _ _ ?_
        refine cl (isS v hs) ?_
        refine br_f (by decide) ?_
        refine cl (isP hp _) ?_
        refine br_f (by decide) ?_
        refine Exists.intro (k) (And.intro ⟨ek, by omega, by omega⟩ ?_)
        refine cl (ct_offerAt_1 (Tq 1 σ 3 k) ha ea σ) ?_
        exact And.intro rfl rfl
      · have c := ct_offer (k := k) (show k < 8 by omega) ha ek ea σ (Tq 1 σ)
        rw [MSe f46] at c
        refine Ct.of (by decide +kernel) zX5_offers (Nat.le_of_ble_eq_true rfl) (by decide) (fun X go => ?_)
        refine go.1 [] 100 _ _ _ _ ?_
        refine cl (isSM v f46 hs) ?_
        refine br_f (by decide) ?_
        refine cl (isPM hp _) ?_
        refine br_f (by decide) ?_
        refine cl (c) ?_
        exact And.intro rfl rfl
theorem P_placeOf {σ : Sg} (h : J σ) (p w : Int32) : Pair mX4_placeOf mX5_placeOf [.int p, .int w] σ := by
  have f46 := J46 h
  obtain ⟨n, hh, v, h9⟩ := h.1
  cases hp : bI p 0 11 with
  | false =>
      refine Pair_fd h 0 ?_ ?_
      · refine Ct.of (by decide +kernel) zX4_placeOf (Nat.le_of_ble_eq_true rfl) (by decide) (fun X go => ?_)
        refine go.1 [] 100 _ _ _ _ ?_
        refine cl (isP hp _) ?_
        refine br_t (by decide) ?_
        refine cl (ct_fd (w := 0) (by decide) rfl _) ?_
        exact And.intro rfl rfl
      · refine Ct.of (by decide +kernel) zX5_placeOf (Nat.le_of_ble_eq_true rfl) (by decide) (fun X go => ?_)
        refine go.1 [] 100 _ _ _ _ ?_
        refine cl (isPM hp _) ?_
        refine br_t (by decide) ?_
        refine cl (ct_finds (w := 0) (by decide) fd0 _) ?_
        exact And.intro rfl rfl
  | true =>
    cases hw : bI w 0 2 with
    | false =>
      refine Pair_fd h 0 ?_ ?_
      · refine Ct.of (by decide +kernel) zX4_placeOf (Nat.le_of_ble_eq_true rfl) (by decide) (fun X go => ?_)
        refine go.1 [] 100 _ _ _ _ ?_
        refine cl (isP hp _) ?_
        refine br_f (by decide) ?_
        repeat (refine br_f (fun q => by rw [q] at hw; exact absurd hw (by decide)) ?_)
        refine cl (ct_fd (w := 0) (by decide) rfl _) ?_
        exact And.intro rfl rfl
      · refine Ct.of (by decide +kernel) zX5_placeOf (Nat.le_of_ble_eq_true rfl) (by decide) (fun X go => ?_)
        refine go.1 [] 100 _ _ _ _ ?_
        refine cl (isPM hp _) ?_
        refine br_f (by decide) ?_
        refine cl (inM 0 2 hw _) ?_
        refine br_t (by decide) ?_
        refine cl (ct_finds (w := 0) (by decide) fd0 _) ?_
        exact And.intro rfl rfl
    | true =>
      obtain ⟨a, -, ha, rfl⟩ := bI_n hp (by decide) (by decide)
      have ha : a < 12 := by omega
      obtain ⟨b, -, hb, rfl⟩ := bI_n hw (by decide) (by decide)
      have hb : b = 0 ∨ b = 1 ∨ b = 2 := by omega
      rcases hb with rfl | rfl | rfl
      · refine ⟨σ 2 a, σ, σ, ?_, ?_, h⟩
        · refine Ct.of (by decide +kernel) zX4_placeOf (Nat.le_of_ble_eq_true rfl) (by decide) (fun X go => ?_)
          refine go.1 [] 100 _ _ _ _ ?_
          refine cl (isP hp _) ?_
          refine br_f (by decide) ?_
          refine br_t (by decide) ?_
          refine Exists.intro (a) (And.intro ⟨rfl, by omega, by omega⟩ ?_)
          exact And.intro rfl rfl
        · refine Ct.of (by decide +kernel) zX5_placeOf (Nat.le_of_ble_eq_true rfl) (by decide) (fun X go => ?_)
          refine go.1 [] 100 _ _ _ _ ?_
          refine cl (isPM hp _) ?_
          refine br_f (by decide) ?_
          refine cl (inM 0 2 hw _) ?_
          refine br_f (by decide) ?_
          refine br_t (by decide) ?_
          refine Exists.intro (4 + a) (And.intro ⟨show nI 4 + nI a = _ from nI_add 4 a, by omega, by omega⟩ ?_)
          rw [show σ 2 a = σ 46 (4 + a) by rw [f46, flat_v ha]; rfl]
          exact And.intro rfl rfl
      · refine ⟨σ 3 a, σ, σ, ?_, ?_, h⟩
        · refine Ct.of (by decide +kernel) zX4_placeOf (Nat.le_of_ble_eq_true rfl) (by decide) (fun X go => ?_)
          refine go.1 [] 100 _ _ _ _ ?_
          refine cl (isP hp _) ?_
          refine br_f (by decide) ?_
          refine br_f (by decide) ?_
          refine br_t (by decide) ?_
          refine Exists.intro (a) (And.intro ⟨rfl, by omega, by omega⟩ ?_)
          exact And.intro rfl rfl
        · refine Ct.of (by decide +kernel) zX5_placeOf (Nat.le_of_ble_eq_true rfl) (by decide) (fun X go => ?_)
          refine go.1 [] 100 _ _ _ _ ?_
          refine cl (isPM hp _) ?_
          refine br_f (by decide) ?_
          refine cl (inM 0 2 hw _) ?_
          refine br_f (by decide) ?_
          refine br_f (by decide) ?_
          refine br_t (by decide) ?_
          refine Exists.intro (16 + a) (And.intro ⟨show nI 16 + nI a = _ from nI_add 16 a, by omega, by omega⟩ ?_)
          rw [show σ 3 a = σ 46 (16 + a) by rw [f46, flat_s ha]; rfl]
          exact And.intro rfl rfl
      · refine ⟨atN (Tq 1 σ) (nI a) n, σ, σ, ?_, ?_, h⟩
        · refine Ct.of (by decide +kernel) zX4_placeOf (Nat.le_of_ble_eq_true rfl) (by decide) (fun X go => ?_)
          refine go.1 [] 100 _ _ _ _ ?_
          refine cl (isP hp _) ?_
          refine br_f (by decide) ?_
          refine br_f (by decide) ?_
          refine br_f (by decide) ?_
          refine br_t (by decide) ?_
          refine cl (ct_stallAt_1 v (nI a)) ?_
          exact And.intro rfl rfl
        · have c := ct_stallAtM v (nI a) σ
          rw [MSe f46] at c
          refine Ct.of (by decide +kernel) zX5_placeOf (Nat.le_of_ble_eq_true rfl) (by decide) (fun X go => ?_)
          refine go.1 [] 100 _ _ _ _ ?_
          refine cl (isPM hp _) ?_
          refine br_f (by decide) ?_
          refine cl (inM 0 2 hw _) ?_
          refine br_f (by decide) ?_
          refine br_f (by decide) ?_
          refine br_f (by decide) ?_
          refine cl (c) ?_
          exact And.intro rfl rfl

theorem P_of {σ : Sg} (h : J σ) (s w : Int32) : Pair mX4_of mX5_of [.int s, .int w] σ := by
  have f46 := J46 h
  obtain ⟨n, hh, v, h9⟩ := h.1
  cases hs : bI s 0 ((n : Int) - 1) with
  | false =>
      refine Pair_fd h 0 ?_ ?_
      · refine Ct.of (by decide +kernel) zX4_of (Nat.le_of_ble_eq_true rfl) (by decide) (fun X go => ?_)
        refine go.1 [] 100 _ _ _ _ ?_
        refine cl (isS v hs) ?_
        refine br_t (by decide) ?_
        refine cl (ct_fd (w := 0) (by decide) rfl _) ?_
        exact And.intro rfl rfl
      · refine Ct.of (by decide +kernel) zX5_of (Nat.le_of_ble_eq_true rfl) (by decide) (fun X go => ?_)
        refine go.1 [] 100 _ _ _ _ ?_
        refine cl (isSM v (σ := tel σ 0) f46 hs) ?_
        refine br_t (by decide) ?_
        refine cl (ct_finds (w := 0) (by decide) fd0 _) ?_
        exact And.intro rfl rfl
  | true =>
    cases hw : bI w 0 6 with
    | false =>
      refine Pair_fd h 0 ?_ ?_
      · refine Ct.of (by decide +kernel) zX4_of (Nat.le_of_ble_eq_true rfl) (by decide) (fun X go => ?_)
        refine go.1 [] 100 _ _ _ _ ?_
        refine cl (isS v hs) ?_
        refine br_f (by decide) ?_
        repeat (refine br_f (fun q => by rw [q] at hw; exact absurd hw (by decide)) ?_)
        refine cl (ct_fd (w := 0) (by decide) rfl _) ?_
        exact And.intro rfl rfl
      · refine Ct.of (by decide +kernel) zX5_of (Nat.le_of_ble_eq_true rfl) (by decide) (fun X go => ?_)
        refine go.1 [] 100 _ _ _ _ ?_
        refine cl (isSM v (σ := tel σ 0) f46 hs) ?_
        refine br_f (by decide) ?_
        refine cl (inM 0 6 hw _) ?_
        refine br_t (by decide) ?_
        refine cl (ct_finds (w := 0) (by decide) fd0 _) ?_
        exact And.intro rfl rfl
    | true =>
      have hn8 := v.1.1
      obtain ⟨k, hk, rfl⟩ := st_n v.1.1 hs
      have hk8 : k < 8 := by omega
      obtain ⟨b, -, hb, rfl⟩ := bI_n hw (by decide) (by decide)
      have hb : b = 0 ∨ b = 1 ∨ b = 2 ∨ b = 3 ∨ b = 4 ∨ b = 5 ∨ b = 6 := by omega
      rcases hb with rfl | rfl | rfl | rfl | rfl | rfl | rfl
      · refine ⟨Tq 1 σ 3 k, σ, σ, ?_, ?_, h⟩
        · refine Ct.of (by decide +kernel) zX4_of (Nat.le_of_ble_eq_true rfl) (by decide) (fun X go => ?_)
          refine go.1 [] 100 _ _ _ _ ?_
          refine cl (isS v hs) ?_
          refine br_f (by decide) ?_
          repeat (first | refine br_t (by decide) ?_ | refine br_f (by decide) ?_)
          refine Exists.intro (k) (And.intro ⟨rfl, by omega, by omega⟩ ?_)
          exact And.intro rfl rfl
        · have c := ct_its (k := k) (w := 0) hk8 (by decide) (kv := nI k) (wv := nI 0) rfl rfl σ (Tq 1 σ)
          rw [MSe f46] at c
          refine Ct.of (by decide +kernel) zX5_of (Nat.le_of_ble_eq_true rfl) (by decide) (fun X go => ?_)
          refine go.1 [] 100 _ _ _ _ ?_
          refine cl (isSM v f46 hs) ?_
          refine br_f (by decide) ?_
          refine cl (inM 0 6 hw _) ?_
          repeat (first | refine br_t (by decide) ?_ | refine br_f (by decide) ?_)
          refine cl (c) ?_
          exact And.intro rfl rfl
      · refine ⟨Tq 1 σ 4 k, σ, σ, ?_, ?_, h⟩
        · refine Ct.of (by decide +kernel) zX4_of (Nat.le_of_ble_eq_true rfl) (by decide) (fun X go => ?_)
          refine go.1 [] 100 _ _ _ _ ?_
          refine cl (isS v hs) ?_
          refine br_f (by decide) ?_
          repeat (first | refine br_t (by decide) ?_ | refine br_f (by decide) ?_)
          refine Exists.intro (k) (And.intro ⟨rfl, by omega, by omega⟩ ?_)
          exact And.intro rfl rfl
        · have c := ct_its (k := k) (w := 1) hk8 (by decide) (kv := nI k) (wv := nI 1) rfl rfl σ (Tq 1 σ)
          rw [MSe f46] at c
          refine Ct.of (by decide +kernel) zX5_of (Nat.le_of_ble_eq_true rfl) (by decide) (fun X go => ?_)
          refine go.1 [] 100 _ _ _ _ ?_
          refine cl (isSM v f46 hs) ?_
          refine br_f (by decide) ?_
          refine cl (inM 0 6 hw _) ?_
          repeat (first | refine br_t (by decide) ?_ | refine br_f (by decide) ?_)
          refine cl (c) ?_
          exact And.intro rfl rfl
      · refine ⟨Tq 1 σ 5 k, σ, σ, ?_, ?_, h⟩
        · refine Ct.of (by decide +kernel) zX4_of (Nat.le_of_ble_eq_true rfl) (by decide) (fun X go => ?_)
          refine go.1 [] 100 _ _ _ _ ?_
          refine cl (isS v hs) ?_
          refine br_f (by decide) ?_
          repeat (first | refine br_t (by decide) ?_ | refine br_f (by decide) ?_)
          refine Exists.intro (k) (And.intro ⟨rfl, by omega, by omega⟩ ?_)
          exact And.intro rfl rfl
        · have c := ct_its (k := k) (w := 2) hk8 (by decide) (kv := nI k) (wv := nI 2) rfl rfl σ (Tq 1 σ)
          rw [MSe f46] at c
          refine Ct.of (by decide +kernel) zX5_of (Nat.le_of_ble_eq_true rfl) (by decide) (fun X go => ?_)
          refine go.1 [] 100 _ _ _ _ ?_
          refine cl (isSM v f46 hs) ?_
          refine br_f (by decide) ?_
          refine cl (inM 0 6 hw _) ?_
          repeat (first | refine br_t (by decide) ?_ | refine br_f (by decide) ?_)
          refine cl (c) ?_
          exact And.intro rfl rfl
      · refine ⟨Tq 1 σ 6 k, σ, σ, ?_, ?_, h⟩
        · refine Ct.of (by decide +kernel) zX4_of (Nat.le_of_ble_eq_true rfl) (by decide) (fun X go => ?_)
          refine go.1 [] 100 _ _ _ _ ?_
          refine cl (isS v hs) ?_
          refine br_f (by decide) ?_
          repeat (first | refine br_t (by decide) ?_ | refine br_f (by decide) ?_)
          refine Exists.intro (k) (And.intro ⟨rfl, by omega, by omega⟩ ?_)
          exact And.intro rfl rfl
        · have c := ct_its (k := k) (w := 3) hk8 (by decide) (kv := nI k) (wv := nI 3) rfl rfl σ (Tq 1 σ)
          rw [MSe f46] at c
          refine Ct.of (by decide +kernel) zX5_of (Nat.le_of_ble_eq_true rfl) (by decide) (fun X go => ?_)
          refine go.1 [] 100 _ _ _ _ ?_
          refine cl (isSM v f46 hs) ?_
          refine br_f (by decide) ?_
          refine cl (inM 0 6 hw _) ?_
          repeat (first | refine br_t (by decide) ?_ | refine br_f (by decide) ?_)
          refine cl (c) ?_
          exact And.intro rfl rfl
      · refine ⟨Tq 1 σ 7 k, σ, σ, ?_, ?_, h⟩
        · refine Ct.of (by decide +kernel) zX4_of (Nat.le_of_ble_eq_true rfl) (by decide) (fun X go => ?_)
          refine go.1 [] 100 _ _ _ _ ?_
          refine cl (isS v hs) ?_
          refine br_f (by decide) ?_
          repeat (first | refine br_t (by decide) ?_ | refine br_f (by decide) ?_)
          refine Exists.intro (k) (And.intro ⟨rfl, by omega, by omega⟩ ?_)
          exact And.intro rfl rfl
        · have c := ct_its (k := k) (w := 4) hk8 (by decide) (kv := nI k) (wv := nI 4) rfl rfl σ (Tq 1 σ)
          rw [MSe f46] at c
          refine Ct.of (by decide +kernel) zX5_of (Nat.le_of_ble_eq_true rfl) (by decide) (fun X go => ?_)
          refine go.1 [] 100 _ _ _ _ ?_
          refine cl (isSM v f46 hs) ?_
          refine br_f (by decide) ?_
          refine cl (inM 0 6 hw _) ?_
          repeat (first | refine br_t (by decide) ?_ | refine br_f (by decide) ?_)
          refine cl (c) ?_
          exact And.intro rfl rfl
      · obtain ⟨x, hx, ex⟩ := v.2.2.1 k hk8
        refine ⟨pR x, σ, σ, ?_, ?_, h⟩
        · refine Ct.of (by decide +kernel) zX4_of (Nat.le_of_ble_eq_true rfl) (by decide) (fun X go => ?_)
          refine go.1 [] 100 _ _ _ _ ?_
          refine cl (isS v hs) ?_
          refine br_f (by decide) ?_
          repeat (first | refine br_t (by decide) ?_ | refine br_f (by decide) ?_)
          refine cl (ct_priceOf_1 hk8 hx ex) ?_
          exact And.intro rfl rfl
        · have c := ct_price hk8 (kv := nI k) rfl hx ex σ
          rw [MSe f46] at c
          refine Ct.of (by decide +kernel) zX5_of (Nat.le_of_ble_eq_true rfl) (by decide) (fun X go => ?_)
          refine go.1 [] 100 _ _ _ _ ?_
          refine cl (isSM v f46 hs) ?_
          refine br_f (by decide) ?_
          refine cl (inM 0 6 hw _) ?_
          repeat (first | refine br_t (by decide) ?_ | refine br_f (by decide) ?_)
          refine cl (c) ?_
          exact And.intro rfl rfl
      · have c1 := ct_wouldGo_1 hk8 σ
        have c := ct_isGoing hk8 (kv := nI k) rfl σ (Tq 1 σ)
        rw [MSe f46] at c
        cases hg : goT (Tq 1 σ) k with
        | true =>
          rw [hg] at c1 c
          refine ⟨1, σ, σ, ?_, ?_, h⟩
          · refine Ct.of (by decide +kernel) zX4_of (Nat.le_of_ble_eq_true rfl) (by decide) (fun X go => ?_)
            refine go.1 [] 100 _ _ _ _ ?_
            refine cl (isS v hs) ?_
            refine br_f (by decide) ?_
            repeat (first | refine br_t (by decide) ?_ | refine br_f (by decide) ?_)
            refine cl (c1) ?_
            refine br_f (by decide) ?_
            exact And.intro rfl rfl
          · refine Ct.of (by decide +kernel) zX5_of (Nat.le_of_ble_eq_true rfl) (by decide) (fun X go => ?_)
            refine go.1 [] 100 _ _ _ _ ?_
            refine cl (isSM v f46 hs) ?_
            refine br_f (by decide) ?_
            refine cl (inM 0 6 hw _) ?_
            repeat (first | refine br_t (by decide) ?_ | refine br_f (by decide) ?_)
            refine cl (c) ?_
            refine br_f (by decide) ?_
            exact And.intro rfl rfl
        | false =>
          rw [hg] at c1 c
          refine ⟨0, σ, σ, ?_, ?_, h⟩
          · refine Ct.of (by decide +kernel) zX4_of (Nat.le_of_ble_eq_true rfl) (by decide) (fun X go => ?_)
            refine go.1 [] 100 _ _ _ _ ?_
            refine cl (isS v hs) ?_
            refine br_f (by decide) ?_
            repeat (first | refine br_t (by decide) ?_ | refine br_f (by decide) ?_)
            refine cl (c1) ?_
            refine br_t (by decide) ?_
            exact And.intro rfl rfl
          · refine Ct.of (by decide +kernel) zX5_of (Nat.le_of_ble_eq_true rfl) (by decide) (fun X go => ?_)
            refine go.1 [] 100 _ _ _ _ ?_
            refine cl (isSM v f46 hs) ?_
            refine br_f (by decide) ?_
            refine cl (inM 0 6 hw _) ?_
            repeat (first | refine br_t (by decide) ?_ | refine br_f (by decide) ?_)
            refine cl (c) ?_
            refine br_t (by decide) ?_
            exact And.intro rfl rfl
