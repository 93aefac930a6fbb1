/-! PAIRS: the square is told and changed -/
theorem flat_ext {f : Nat → Int32} {T : Sg} (h0 : f 0 = T 0 10) (h1 : f 1 = T 0 9) (h2 : f 2 = T 0 8) (h3 : f 3 = T 0 11) (hv : ∀ p, p < 12 → f (4 + p) = T 1 p) (hs : ∀ p, p < 12 → f (16 + p) = T 2 p) (hk : ∀ k w, k < 8 → w < 5 → f (28 + 5 * k + w) = T (3 + w) k) (hh : ∀ q, q < 10 → f (68 + q) = T 8 q) (hz : Zr 78 f) : f = flat T := by
  funext j
  by_cases h4 : 4 ≤ j
  · rw [flat_ge h4]
    by_cases a1 : j < 16
    · rw [if_pos a1, ← hv (j - 4) (by omega)]; congr 1; omega
    · rw [if_neg a1]
      by_cases a2 : j < 28
      · rw [if_pos a2, ← hs (j - 16) (by omega)]; congr 1; omega
      · rw [if_neg a2]
        by_cases a3 : j < 68
        · rw [if_pos a3, ← hk ((j - 28) / 5) ((j - 28) % 5) (by omega) (by omega)]; congr 1; omega
        · rw [if_neg a3]
          by_cases a4 : j < 78
          · rw [if_pos a4, ← hh (j - 68) (by omega)]; congr 1; omega
          · rw [if_neg a4]; exact hz j (by omega)
  · have : j = 0 ∨ j = 1 ∨ j = 2 ∨ j = 3 := by omega
    rcases this with rfl | rfl | rfl | rfl
    · exact h0
    · exact h1
    · exact h2
    · exact h3
theorem flat_z (T : Sg) : Zr 78 (flat T) := fun k hk => by
  rw [flat_ge (by omega), if_neg (by omega), if_neg (by omega), if_neg (by omega), if_neg (by omega)]
theorem upd_ne {f : Nat → Int32} {k j : Nat} {x : Int32} (h : j ≠ k) : upd f k x j = f j := if_neg h
theorem upd_eq (f : Nat → Int32) (k : Nat) (x : Int32) : upd f k x k = x := if_pos rfl
theorem Zr_upd {n k : Nat} {f : Nat → Int32} {x : Int32} (h : Zr n f) (hk : k < n) : Zr n (upd f k x) := fun j hj => by rw [upd_ne (by omega)]; exact h j hj
theorem flat_upd_v {T : Sg} {p : Nat} (hp : p < 12) (x : Int32) : upd (flat T) (4 + p) x = flat (upr T 1 (upd (T 1) p x)) := by
  refine flat_ext (upd_ne (by omega)) (upd_ne (by omega)) (upd_ne (by omega)) (upd_ne (by omega)) (fun q hq => ?_) (fun q hq => ?_) (fun k w hk hw => ?_) (fun q hq => ?_) (Zr_upd (flat_z T) (by omega))
  · rw [upr_in]
    by_cases h : q = p
    · subst h; rw [upd_eq, upd_eq]
    · rw [upd_ne (by omega), upd_ne h, flat_v hq]
  · rw [upd_ne (by omega), flat_s hq]; rfl
  · rw [upd_ne (by omega), flat_k hk hw, upr_out (by omega)]
  · rw [upd_ne (by omega), flat_h hq]; rfl
theorem flat_upd_s {T : Sg} {p : Nat} (hp : p < 12) (x : Int32) : upd (flat T) (16 + p) x = flat (upr T 2 (upd (T 2) p x)) := by
  refine flat_ext (upd_ne (by omega)) (upd_ne (by omega)) (upd_ne (by omega)) (upd_ne (by omega)) (fun q hq => ?_) (fun q hq => ?_) (fun k w hk hw => ?_) (fun q hq => ?_) (Zr_upd (flat_z T) (by omega))
  · rw [upd_ne (by omega), flat_v hq]; rfl
  · rw [upr_in]
    by_cases h : q = p
    · subst h; rw [upd_eq, upd_eq]
    · rw [upd_ne (by omega), upd_ne h, flat_s hq]
  · rw [upd_ne (by omega), flat_k hk hw, upr_out (by omega)]
  · rw [upd_ne (by omega), flat_h hq]; rfl
theorem flat_upd_h {T : Sg} {p : Nat} (hp : p < 10) (x : Int32) : upd (flat T) (68 + p) x = flat (upr T 8 (upd (T 8) p x)) := by
  refine flat_ext (upd_ne (by omega)) (upd_ne (by omega)) (upd_ne (by omega)) (upd_ne (by omega)) (fun q hq => ?_) (fun q hq => ?_) (fun k w hk hw => ?_) (fun q hq => ?_) (Zr_upd (flat_z T) (by omega))
  · rw [upd_ne (by omega), flat_v hq]; rfl
  · rw [upd_ne (by omega), flat_s hq]; rfl
  · rw [upd_ne (by omega), flat_k hk hw, upr_out (by omega)]
  · rw [upr_in]
    by_cases h : q = p
    · subst h; rw [upd_eq, upd_eq]
    · rw [upd_ne (by omega), upd_ne h, flat_h hq]
/-- a field of the square: spring 8 at 2, stalls 9 at 1, z 11 at 3 -/
theorem flat_upd_f {T : Sg} {i k : Nat} (hik : (i = 2 ∧ k = 8) ∨ (i = 1 ∧ k = 9) ∨ (i = 3 ∧ k = 11)) (x : Int32) : upd (flat T) i x = flat (upr T 0 (upd (T 0) k x)) := by
  have hv : ∀ q, q < 12 → upd (flat T) i x (4 + q) = upr T 0 (upd (T 0) k x) 1 q := fun q hq => by rw [upd_ne (by omega), flat_v hq]; rfl
  have hs : ∀ q, q < 12 → upd (flat T) i x (16 + q) = upr T 0 (upd (T 0) k x) 2 q := fun q hq => by rw [upd_ne (by omega), flat_s hq]; rfl
  have hk : ∀ q w, q < 8 → w < 5 → upd (flat T) i x (28 + 5 * q + w) = upr T 0 (upd (T 0) k x) (3 + w) q := fun q w hq hw => by rw [upd_ne (by omega), flat_k hq hw, upr_out (by omega)]
  have hh : ∀ q, q < 10 → upd (flat T) i x (68 + q) = upr T 0 (upd (T 0) k x) 8 q := fun q hq => by rw [upd_ne (by omega), flat_h hq]; rfl
  have hz : Zr 78 (upd (flat T) i x) := Zr_upd (flat_z T) (by omega)
  rcases hik with ⟨rfl, rfl⟩ | ⟨rfl, rfl⟩ | ⟨rfl, rfl⟩ <;> exact flat_ext rfl rfl rfl rfl hv hs hk hh hz
/-- the square that is now becomes another one, in both -/
theorem J_set {σ σ2 T : Sg} (h : J σ) (v : ∃ n h, VT n h T ∧ h ≤ 999) (z : ZT T) (e1 : ∀ j, j < 9 → T j = σ2 (1 + j)) (e46 : σ2 46 = flat T) (e0 : σ2 0 = σ 0) (eo : ∀ i, 10 ≤ i → i ≠ 46 → σ2 i = σ i) : J σ2 := by
  have t : ∀ o, 10 ≤ o → o + 8 < 46 → ∀ j, j < 9 → Tq o σ j = Tq o σ2 j := fun o h1 h2 j hj => (eo (o + j) (by omega) (by omega)).symm
  have c := eo
  obtain ⟨n, hh, v, h9⟩ := v
  obtain ⟨-, ⟨z1, z10, z19⟩, f, ⟨r48, r47⟩, ⟨k1, k2, k3⟩, st, ⟨m, m1, m2, m3, m4⟩, sh⟩ := h
  refine ⟨⟨n, hh, VT_cong e1 v, h9⟩, ⟨ZT_cong e1 z, ZT_cong (t 10 (by decide) (by decide)) z10, ZT_cong (t 19 (by decide) (by decide)) z19⟩, ?_, ⟨?_, ?_⟩, ⟨?_, ?_, ?_⟩, ?_, ⟨m, m1, ?_, ?_, ?_⟩, ?_⟩
  · rw [e46]; exact flat_cong e1
  · rw [c 48 (by decide) (by decide)]; exact r48
  · rw [c 47 (by decide) (by decide)]; exact r47
  · rw [e0, c 45 (by decide) (by decide)]; exact k1
  · rw [e0]; exact k2
  · rw [e0, c 47 (by decide) (by decide)]
    intro q
    obtain ⟨⟨n', h', v', h9'⟩, f'⟩ := k3 q
    exact ⟨⟨n', h', VT_cong (t 19 (by decide) (by decide)) v', h9'⟩, by rw [f', flat_cong (t 19 (by decide) (by decide))]⟩
  · rw [c 44 (by decide) (by decide), c 49 (by decide) (by decide)]; exact st
  · rw [c 32 (by decide) (by decide)]; exact m2
  · rw [c 45 (by decide) (by decide)]; exact m3
  · rw [c 33 (by decide) (by decide), c 51 (by decide) (by decide)]; exact m4
  · intro s hs
    have := sh s hs
    unfold Jsh at this ⊢
    rw [c (35 + 2 * s) (by omega) (by omega), c (36 + 2 * s) (by omega) (by omega), c 52 (by decide) (by decide), c 53 (by decide) (by decide), c 54 (by decide) (by decide)]
    exact this
/-- .. by one row -/
theorem J_row {σ : Sg} (h : J σ) {r : Nat} (hr : r ≤ 8) {f g : Nat → Int32} (v : ∃ n h, VT n h (upr (Tq 1 σ) r f) ∧ h ≤ 999) (z : ZT (upr (Tq 1 σ) r f)) (eg : g = flat (upr (Tq 1 σ) r f)) : J (upr (upr σ (1 + r) f) 46 g) := by
  refine J_set h v z (fun j hj => ?_) (by rw [upr_in]; exact eg) (by rw [upr_out (by decide), upr_out (by omega)]) (fun i h1 h2 => by rw [upr_out h2, upr_out (by omega)])
  refine Eq.trans ?_ (upr_out (show 1 + j ≠ 46 by omega)).symm
  by_cases hjr : j = r
  · subst hjr; rw [upr_in, upr_in]
  · rw [upr_out hjr, upr_out (by omega)]; rfl
theorem fd0 : (-1000001 : Int32) = fd 0 := by decide
theorem fd1 : (-1000002 : Int32) = fd 1 := by decide
theorem fd2 : (-1000003 : Int32) = fd 2 := by decide
theorem fd3 : (-1000004 : Int32) = fd 3 := by decide
theorem fd4 : (-1000005 : Int32) = fd 4 := by decide
theorem fd5 : (-1000006 : Int32) = fd 5 := by decide
theorem fd6 : (-1000007 : Int32) = fd 6 := by decide
theorem Pair_fd {M M' : MI} {As : List Value} {σ : Sg} (h : J σ) (w : Nat) (c : Ct M (.ref 0 :: As) σ (Ex (some (.int (fd w))) (tel σ w))) (c' : Ct M' (.ref 45 :: As) (tel σ w) (Ex (some (.int (fd w))) (telM (tel σ w) w))) : Pair M M' As σ := ⟨_, _, _, c, c', J_tell h w⟩
theorem J46 {σ : Sg} (h : J σ) : σ 46 = flat (Tq 1 σ) := h.2.2.1
theorem P_visits {σ : Sg} (h : J σ) (p v : Int32) : Pair mX4_visits mX5_visits [.int p, .int v] σ := by
  cases hp : bI p 0 11 with
  | false =>
    refine Pair_fd h 0 ?_ ?_
    · refine Ct.of (by decide +kernel) zX4_visits (Nat.le_of_ble_eq_true rfl) (by decide) (fun X go => ?_)
      refine go.1 [] 40 _ _ _ _ ?_
      have c := ctZ_isPlace p σ
      rw [hp] at c
      refine cl c ?_
      refine br_t (by decide) ?_
      refine cl (ct_fd (w := 0) (by decide) rfl σ) ?_
      exact And.intro rfl rfl
    · refine Ct.of (by decide +kernel) zX5_visits (Nat.le_of_ble_eq_true rfl) (by decide) (fun X go => ?_)
      refine go.1 [] 40 _ _ _ _ ?_
      have c := ct_isPlaceM p (tel σ 0)
      rw [hp] at c
      refine cl c ?_
      refine br_t (by decide) ?_
      refine cl (ct_finds (w := 0) (by decide) fd0 _) ?_
      exact And.intro rfl rfl
  | true =>
    cases hv : bI v 0 20 with
    | false =>
      refine Pair_fd h 0 ?_ ?_
      · refine Ct.of (by decide +kernel) zX4_visits (Nat.le_of_ble_eq_true rfl) (by decide) (fun X go => ?_)
        refine go.1 [] 40 _ _ _ _ ?_
        have c := ctZ_isPlace p σ
        rw [hp] at c
        refine cl c ?_
        refine br_f (by decide) ?_
        refine And.intro (fun (q : v < 0) => ?_) (fun (q : ¬ v < 0) => ?_)
        · refine cl (ct_fd (w := 0) (by decide) rfl σ) ?_
          exact And.intro rfl rfl
        · refine br_f (show ¬ v ≤ 20 from fun g => ?_) ?_
          · have g : v.toInt ≤ 20 := (i_le v 20).mp g
            have q : ¬ v.toInt < 0 := fun z => q ((i_lt v 0).mpr z)
            exact bI_f.mp hv ⟨by omega, g⟩
          · refine cl (ct_fd (w := 0) (by decide) rfl σ) ?_
            exact And.intro rfl rfl
      · refine Ct.of (by decide +kernel) zX5_visits (Nat.le_of_ble_eq_true rfl) (by decide) (fun X go => ?_)
        refine go.1 [] 40 _ _ _ _ ?_
        have c := ct_isPlaceM p (tel σ 0)
        rw [hp] at c
        refine cl c ?_
        refine br_f (by decide) ?_
        have c2 := ct_inI v 0 20 (la := 0) (lb := 20) (by decide) (by decide) (tel σ 0)
        rw [show bI v (0 : Int32).toInt (20 : Int32).toInt = false from hv] at c2
        refine cl c2 ?_
        refine br_t (by decide) ?_
        refine cl (ct_finds (w := 0) (by decide) fd0 _) ?_
        exact And.intro rfl rfl
    | true =>
      obtain ⟨a, -, ha, rfl⟩ := bI_n hp (by decide) (by decide)
      obtain ⟨b, -, hb, rfl⟩ := bI_n hv (by decide) (by decide)
      have ha : a < 12 := by omega
      have hb : b ≤ 20 := by omega
      have f46 := J46 h
      have er : σ 2 a = σ 46 (4 + a) := by rw [f46, flat_v ha]; rfl
      refine ⟨σ 2 a, up2 σ 2 a (nI b), up2 (up2 σ 2 a (nI b)) 46 (4 + a) (nI b), ?_, ?_, ?_⟩
      · refine Ct.of (by decide +kernel) zX4_visits (Nat.le_of_ble_eq_true rfl) (by decide) (fun X go => ?_)
        refine go.1 [] 60 _ _ _ _ ?_
        have c := ctZ_isPlace (nI a) σ
        rw [hp] at c
        refine cl c ?_
        refine br_f (by decide) ?_
        refine br_f (nI_pos (by omega)) ?_
        refine br_t (show nI b ≤ nI 20 from nI_le hb (by decide)) ?_
        refine Exists.intro a (And.intro ⟨rfl, ha, by omega⟩ ?_)
        refine Exists.intro a (And.intro ⟨rfl, ha, by omega⟩ ?_)
        exact And.intro rfl rfl
      · refine Ct.of (by decide +kernel) zX5_visits (Nat.le_of_ble_eq_true rfl) (by decide) (fun X go => ?_)
        refine go.1 [] 60 _ _ _ _ ?_
        have c := ct_isPlaceM (nI a) (up2 σ 2 a (nI b))
        rw [hp] at c
        refine cl c ?_
        refine br_f (by decide) ?_
        have c2 := ct_inI (nI b) 0 20 (la := 0) (lb := 20) (by decide) (by decide) (up2 σ 2 a (nI b))
        rw [show bI (nI b) (0 : Int32).toInt (20 : Int32).toInt = true from hv] at c2
        refine cl c2 ?_
        refine br_f (by decide) ?_
        refine Exists.intro (4 + a) (And.intro ⟨show nI 4 + nI a = _ from nI_add 4 a, by omega, by omega⟩ ?_)
        refine Exists.intro (4 + a) (And.intro ⟨show nI 4 + nI a = _ from nI_add 4 a, by omega, by omega⟩ ?_)
        rw [er]
        exact And.intro rfl rfl
      · obtain ⟨n, hh, v, h9⟩ := h.1
        have z := h.2.1.1
        refine J_row h (r := 1) (by decide) (f := upd (σ 2) a (nI b)) ⟨n, hh, ⟨v.1, v.2.1, v.2.2.1, v.2.2.2.1, v.2.2.2.2.1, fun q hq => ?_, v.2.2.2.2.2.2⟩, h9⟩ ⟨z.1, ⟨Zr_upd z.2.1.1 ha, z.2.1.2⟩, z.2.2⟩ ?_
        · by_cases hqa : q = a
          · exact ⟨b, hb, by subst hqa; exact upd_eq (σ 2) q (nI b)⟩
          · obtain ⟨x, hx, ex⟩ := v.2.2.2.2.2.1 q hq
            exact ⟨x, hx, (upd_ne (f := σ 2) hqa).trans ex⟩
        · show upd (σ 46) (4 + a) (nI b) = _
          rw [f46, flat_upd_v ha]
          rfl
