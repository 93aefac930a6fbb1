/-! AN HOUR keeps what can be -/
theorem sellN_nk {T : Sg} {k i : Nat} (hi : i ≠ k) (U : Sg) (j : Nat) : sell1 U k j i = U j i := by
  unfold sell1
  by_cases h6 : j = 6
  · subst h6; rw [upr_in]; unfold upd; rw [if_neg hi]
  · rw [upr_out h6]
    by_cases h7 : j = 7
    · subst h7; rw [upr_in]; unfold upd; rw [if_neg hi]
    · rw [upr_out h7]
      by_cases h5 : j = 5
      · subst h5; rw [upr_in]; unfold upd; rw [if_neg hi]
      · rw [upr_out h5]
theorem sellN_lt {T : Sg} {i : Nat} (j : Nat) : ∀ n, i < n → sellN T n j i = sell1 (sellN T i) i j i
  | 0, h => absurd h (by omega)
  | n + 1, h => by
    by_cases hi : i = n
    · subst hi; rfl
    · show sell1 (sellN T n) n j i = _
      rw [sellN_nk (T := T) hi]
      exact sellN_lt j n (by omega)
/-- goods and coin behind the selling -/
theorem sellN_5 {T : Sg} {i n : Nat} (h : i < n) : sellN T n 5 i = T 5 i - selT T i := by
  rw [sellN_lt 5 n h]
  unfold sell1
  rw [upr_out (by decide), upr_out (by decide), upr_in, selT_at (Nat.le_refl i), sellN_ge i (Nat.le_refl i)]
  unfold upd
  rw [if_pos rfl]
theorem sellN_6 {T : Sg} {i n : Nat} (h : i < n) : sellN T n 6 i = T 6 i + selT T i * priT (T 3 i) := by
  rw [sellN_lt 6 n h]
  unfold sell1
  rw [upr_in, selT_at (Nat.le_refl i), sellN_ge i (Nat.le_refl i), sellN_row (j := 3) (by decide) (by decide) (by decide) i]
  unfold upd
  rw [if_pos rfl]
/-- the sale behind k stalls, of the square as it was -/
theorem strN_row {st tk : Int32} {T : Sg} {j : Nat} (h4 : j ≠ 4) : ∀ k, strN st tk T k j = T j
  | 0 => rfl
  | k + 1 => by
    show str1 st tk (strN st tk T k) k j = T j
    unfold str1
    split
    · exact strN_row h4 k
    · rw [upr_out h4]; exact strN_row h4 k
theorem str1_nk {st tk : Int32} {U : Sg} {k i : Nat} (hi : i ≠ k) : str1 st tk U k 4 i = U 4 i := by
  unfold str1
  split
  · rfl
  · rw [upr_in]; unfold upd; rw [if_neg hi]
theorem strN_ge {st tk : Int32} {T : Sg} {i : Nat} : ∀ k, k ≤ i → strN st tk T k 4 i = T 4 i
  | 0, _ => rfl
  | k + 1, h => by
    show str1 st tk (strN st tk T k) k 4 i = T 4 i
    rw [str1_nk (by omega)]
    exact strN_ge k (by omega)
theorem strN_lt {st tk : Int32} {T : Sg} {i : Nat} : ∀ n, i < n → strN st tk T n 4 i = str1 st tk (strN st tk T i) i 4 i
  | 0, h => absurd h (by omega)
  | n + 1, h => by
    by_cases hi : i = n
    · subst hi; rfl
    · show str1 st tk (strN st tk T n) n 4 i = _
      rw [str1_nk hi]
      exact strN_lt n (by omega)
theorem strN_at {st tk : Int32} {T : Sg} {i n : Nat} (h : i < n) : strN st tk T n 4 i = if hb st (nI i) then T 4 i else nI ((pl T i + far (pl T i) tk) % 12) := by
  rw [strN_lt n h]
  unfold str1
  have e : strN st tk T i 4 i = T 4 i := strN_ge i (Nat.le_refl i)
  split
  · exact e
  · rw [upr_in]
    unfold upd
    rw [if_pos rfl]
    have : pl (strN st tk T i) i = pl T i := by unfold pl; rw [e]
    rw [this]
/-! bits of sets of small numbers -/
theorem bit1_n {j : Nat} (h : j < 31) : bit1 (nI j) = nI (2 ^ j) := by
  unfold bit1
  have e : ((nI j &&& 31).toBitVec.smod 32).toNat = j := by
    have : ∀ j, j < 31 → ((nI j &&& 31).toBitVec.smod 32).toNat = j := by decide
    exact this j h
  have := pk_shlN (n := 1) (nI j &&& 31) j e (by
    have : 2 ^ j ≤ 2 ^ 30 := Nat.pow_le_pow_right (by decide) (by omega)
    omega)
  rw [Nat.one_mul] at this
  exact this
theorem nI_or (a b : Nat) : nI a ||| nI b = nI (a ||| b) := by
  refine Int32.toBitVec_inj.mp ?_
  show BitVec.ofNat 32 a ||| BitVec.ofNat 32 b = BitVec.ofNat 32 (a ||| b)
  rw [BitVec.ofNat_or]
theorem hb_n {m j : Nat} (hm : m < 2 ^ 31) (hj : j < 31) : hb (nI m) (nI j) ↔ m.testBit j = true := by
  have e : ((nI j &&& 31).toBitVec.smod 32).toNat = j := by
    have : ∀ j, j < 31 → ((nI j &&& 31).toBitVec.smod 32).toNat = j := by decide
    exact this j hj
  unfold hb
  rw [pk_shrN hm _ j e]
  have hdiv : m / 2 ^ j < 2 ^ 31 := Nat.lt_of_le_of_lt (Nat.div_le_self _ _) hm
  have h1 := pk_andN (n := m / 2 ^ j) (m := 1) (by omega) 1 rfl
  rw [h1, show (1 : Int32) = nI 1 from rfl, nI_eq (by omega) (by decide)]
  rw [Nat.testBit_eq_decide_div_mod_eq]
  simp
/-- a set of numbers below m, by a question -/
def setN (P : Nat → Bool) : Nat → Nat
  | 0 => 0
  | k + 1 => if P k = true then setN P k ||| 2 ^ k else setN P k
theorem two_pow_or {a j m : Nat} (ha : a < 2 ^ m) (hj : j < m) : a ||| 2 ^ j < 2 ^ m := Nat.or_lt_two_pow ha (Nat.pow_lt_pow_right (by decide) hj)
theorem setN_lt (P : Nat → Bool) : ∀ k, setN P k < 2 ^ k
  | 0 => (by decide : 0 < 2 ^ 0)
  | k + 1 => by
    have ih := setN_lt P k
    have h2 : 2 ^ k < 2 ^ (k + 1) := Nat.pow_lt_pow_right (by decide) (by omega)
    unfold setN
    split
    · exact two_pow_or (by omega) (by omega)
    · omega
theorem setN_bit (P : Nat → Bool) : ∀ k i, (setN P k).testBit i = (decide (i < k) && P i)
  | 0, i => by simp [setN]
  | k + 1, i => by
    have ih := setN_bit P k i
    unfold setN
    split
    · rename_i h
      rw [Nat.testBit_or, ih, Nat.testBit_two_pow]
      by_cases hi : i = k
      · subst hi; simp [h]
      · have : decide (i < k + 1) = decide (i < k) := by
          congr 1
          exact propext ⟨fun q => by omega, fun q => by omega⟩
        rw [this]
        have h3 : ¬ k = i := fun q => hi q.symm
        simp [h3]
    · rename_i h
      rw [ih]
      by_cases hi : i = k
      · subst hi; simp [h]
      · have : decide (i < k + 1) = decide (i < k) := by
          congr 1
          exact propext ⟨fun q => by omega, fun q => by omega⟩
        rw [this]
theorem stN_n (T : Sg) : ∀ k, k ≤ 8 → stN T k = nI (setN (fun i => decide (T 5 i = 0) || !goT T i) k)
  | 0, _ => rfl
  | k + 1, h => by
    have ih := stN_n T k (by omega)
    unfold stN setN
    by_cases hc : T 5 k = 0 ∨ goT T k = false
    · rw [if_pos hc, if_pos (by rcases hc with hc | hc <;> simp [hc]), ih, bit1_n (by omega), nI_or]
    · rw [if_neg hc, if_neg (by
        intro q
        apply hc
        rcases Bool.or_eq_true_iff.mp q with q | q
        · exact Or.inl (of_decide_eq_true q)
        · exact Or.inr (by simpa using q)), ih]
/-- the places of some: as numbers -/
def plS (T : Sg) (P : Nat → Bool) : Nat → Nat
  | 0 => 0
  | k + 1 => if P k = true then plS T P k ||| 2 ^ (pl T k) else plS T P k
theorem plS_lt {T : Sg} (hp : ∀ k, k < 8 → pl T k < 12) (P : Nat → Bool) : ∀ k, k ≤ 8 → plS T P k < 2 ^ 12
  | 0, _ => (by decide : 0 < 2 ^ 12)
  | k + 1, h => by
    have ih := plS_lt hp P k (by omega)
    unfold plS
    split
    · exact two_pow_or ih (hp k (by omega))
    · exact ih
theorem plS_bit (T : Sg) (P : Nat → Bool) (i : Nat) : ∀ k, (plS T P k).testBit i = true ↔ ∃ j, j < k ∧ P j = true ∧ pl T j = i
  | 0 => by
    simp [plS]
  | k + 1 => by
    have ih := plS_bit T P i k
    unfold plS
    split
    · rename_i h
      rw [Nat.testBit_or, Nat.testBit_two_pow, Bool.or_eq_true, ih]
      constructor
      · rintro (⟨j, h1, h2⟩ | h1)
        · exact ⟨j, by omega, h2⟩
        · exact ⟨k, by omega, h, of_decide_eq_true h1⟩
      · rintro ⟨j, h1, h2, h3⟩
        by_cases hj : j = k
        · subst hj; exact Or.inr (decide_eq_true h3)
        · exact Or.inl ⟨j, by omega, h2, h3⟩
    · rename_i h
      rw [ih]
      constructor
      · rintro ⟨j, h1, h2⟩; exact ⟨j, by omega, h2⟩
      · rintro ⟨j, h1, h2, h3⟩
        by_cases hj : j = k
        · subst hj; exact absurd h2 h
        · exact ⟨j, by omega, h2, h3⟩
theorem plN_n {T : Sg} (hp : ∀ k, k < 8 → T 4 k = nI (pl T k) ∧ pl T k < 12) {m : Nat} (hm : m < 2 ^ 31) : ∀ k, k ≤ 8 → plN T (nI m) k = nI (plS T (fun i => m.testBit i) k)
  | 0, _ => rfl
  | k + 1, h => by
    have ih := plN_n hp hm k (by omega)
    unfold plN plS
    obtain ⟨e, hk⟩ := hp k (by omega)
    by_cases hc : hb (nI m) (nI k)
    · rw [if_pos hc, if_pos ((hb_n hm (by omega)).mp hc), ih, e, bit1_n (by omega), nI_or]
    · rw [if_neg hc, if_neg (fun q => hc ((hb_n hm (by omega)).mpr q)), ih]
/-- how far: at least 1, at most 12; what is passed is taken; where it ends isn't, or it is all round -/
theorem farG_spec {p m : Nat} (hm : m < 2 ^ 31) : ∀ f s, 1 ≤ s → s + f = 12 → (1 ≤ farG p (nI m) f s ∧ farG p (nI m) f s ≤ 12 ∧ s ≤ farG p (nI m) f s ∧ (∀ q, s ≤ q → q < farG p (nI m) f s → m.testBit ((p + q) % 12) = true) ∧ (farG p (nI m) f s < 12 → m.testBit ((p + farG p (nI m) f s) % 12) = false))
  | 0, s, h1, h2 => by
    unfold farG
    exact ⟨h1, by omega, Nat.le_refl _, fun q a b => absurd a (by omega), fun h => absurd h (by omega)⟩
  | f + 1, s, h1, h2 => by
    unfold farG
    have hb12 : (p + s) % 12 < 31 := by omega
    split
    · rename_i h
      obtain ⟨g1, g2, g3, g4, g5⟩ := farG_spec hm f (s + 1) (by omega) (by omega)
      refine ⟨g1, g2, by omega, fun q a b => ?_, g5⟩
      by_cases hq : q = s
      · subst hq; exact (hb_n hm hb12).mp h
      · exact g4 q (by omega) b
    · rename_i h
      refine ⟨h1, by omega, Nat.le_refl _, fun q a b => absurd a (by omega), fun _ => ?_⟩
      cases hc : m.testBit ((p + s) % 12) with
      | false => rfl
      | true => exact absurd ((hb_n hm hb12).mpr hc) h
theorem far_spec {p m : Nat} (hm : m < 2 ^ 31) : 1 ≤ far p (nI m) ∧ far p (nI m) ≤ 12 ∧ (∀ q, 1 ≤ q → q < far p (nI m) → m.testBit ((p + q) % 12) = true) ∧ (far p (nI m) < 12 → m.testBit ((p + far p (nI m)) % 12) = false) := by
  obtain ⟨g1, g2, -, g4, g5⟩ := farG_spec (p := p) hm 11 1 (by omega) (by omega)
  exact ⟨g1, g2, g4, g5⟩

/-- all the going: where they go -/
theorem strT_at {n h b : Nat} {T : Sg} (v : VTb n h b T) : ∃ ms mp : Nat, ms < 2 ^ 8 ∧ mp < 2 ^ 12 ∧ stN T n = nI ms ∧ plN T (stN T n) n = nI mp ∧ (∀ i, ms.testBit i = true → i < n) ∧ (∀ i, mp.testBit i = true ↔ ∃ j, j < n ∧ ms.testBit j = true ∧ pl T j = i) := by
  have hn := v.1.1
  have e1 := stN_n T n hn
  have l1 := setN_lt (fun i => decide (T 5 i = 0) || !goT T i) n
  have hp : ∀ k, k < 8 → T 4 k = nI (pl T k) ∧ pl T k < 12 := fun k hk => VTpl v hk
  have h8 : 2 ^ n ≤ 2 ^ 8 := Nat.pow_le_pow_right (by decide) hn
  refine ⟨_, _, Nat.lt_of_lt_of_le l1 h8, plS_lt (fun k hk => (hp k hk).2) _ n hn, e1, by rw [e1]; exact plN_n hp (by omega) n hn, fun i hi => ?_, fun i => plS_bit T _ i n⟩
  rw [setN_bit] at hi
  exact of_decide_eq_true (Bool.and_eq_true_iff.mp hi).1
/-- the own place of one that goes isn't taken -/
theorem go_free {n : Nat} {T : Sg} {ms mp : Nat} (hd : ∀ i j, i < n → j < n → pl T i = pl T j → i = j) (hb : ∀ i, mp.testBit i = true ↔ ∃ j, j < n ∧ ms.testBit j = true ∧ pl T j = i) {k : Nat} (hk : k < n) (hg : ms.testBit k = false) : mp.testBit (pl T k) = false := by
  cases h : mp.testBit (pl T k) with
  | false => rfl
  | true =>
    obtain ⟨j, h1, h2, h3⟩ := (hb _).mp h
    have := hd j k h1 hk h3
    subst this
    rw [hg] at h2
    cases h2
theorem far_free {p m : Nat} (hm : m < 2 ^ 31) (hp : p < 12) (h0 : m.testBit p = false) : m.testBit ((p + far p (nI m)) % 12) = false := by
  obtain ⟨h1, h2, h3, h4⟩ := far_spec (p := p) hm
  by_cases h : far p (nI m) < 12
  · exact h4 h
  · have : far p (nI m) = 12 := by omega
    rw [this, Nat.add_mod_right, Nat.mod_eq_of_lt hp]
    exact h0
/-- two that go don't meet -/
theorem far_apart {p q m : Nat} (hm : m < 2 ^ 31) (hp : p < 12) (hq : q < 12) (p0 : m.testBit p = false) (q0 : m.testBit q = false) (e : (p + far p (nI m)) % 12 = (q + far q (nI m)) % 12) : p = q := by
  obtain ⟨a1, a2, a3, -⟩ := far_spec (p := p) hm
  obtain ⟨b1, b2, b3, -⟩ := far_spec (p := q) hm
  generalize hA : far p (nI m) = A at *
  generalize hB : far q (nI m) = B at *
  by_cases hAB : A < B
  · have := b3 (B - A) (by omega) (by omega)
    have e2 : (q + (B - A)) % 12 = p := by omega
    rw [e2] at this
    rw [p0] at this
    cases this
  · by_cases hBA : B < A
    · have := a3 (A - B) (by omega) (by omega)
      have e2 : (p + (A - B)) % 12 = q := by omega
      rw [e2] at this
      rw [q0] at this
      cases this
    · omega
/-- an hour keeps what can be -/
theorem VTd {n h b : Nat} {T : Sg} (v : VTb n h b T) : ∀ i j, i < n → j < n → pl T i = pl T j → i = j := by
  intro i j hi hj e
  have h8 := v.1.1
  exact v.2.2.2.2.2.2.2.1 i j hi hj (by rw [(VTpl v (show i < 8 by omega)).1, (VTpl v (show j < 8 by omega)).1, e])
theorem sell_VT {n h : Nat} {T : Sg} (v : VT n h T) : (∀ k, k < 8 → ∃ g, g ≤ 99 ∧ sellN T n 5 k = nI g) ∧ (∀ k, k < 8 → ∃ c, c ≤ 495 * (h + 1) ∧ sellN T n 6 k = nI c) := by
  refine ⟨fun k hk => ?_, fun k hk => ?_⟩
  · by_cases hkn : k < n
    · obtain ⟨g, x, hg, hx, eg, ex⟩ := selT_n v hk
      exact ⟨g - x, by omega, by rw [sellN_5 hkn, eg, ex, pk_sub hx]⟩
    · rw [sellN_ge n (by omega)]
      exact v.2.2.2.1 k hk
  · by_cases hkn : k < n
    · obtain ⟨g, x, q, c, hg, hx, hq, hc, eg, ex, eq, ec⟩ := sell1_VT hk (v.2.2.2.2.1 k hk) v
      refine ⟨c + x * q, ?_, by rw [sellN_6 hkn, ex, eq, ec, pk_mul, nI_add]⟩
      have : x * q ≤ 99 * 5 := Nat.mul_le_mul (by omega) hq
      omega
    · obtain ⟨c, hc, ec⟩ := v.2.2.2.2.1 k hk
      exact ⟨c, by omega, by rw [sellN_ge n (by omega)]; exact ec⟩
theorem VTsell {n h : Nat} {T : Sg} (v : VT n h T) : (∀ k, k < 8 → sellN T n 4 k = nI (pl T k) ∧ pl (sellN T n) k = pl T k) := by
  intro k hk
  have e : sellN T n 4 = T 4 := sellN_row (by decide) (by decide) (by decide) n
  exact ⟨by rw [e]; exact (VTpl v hk).1, by unfold pl; rw [e]⟩
/-- where all are behind the stroke, of a square whose selling is done -/
theorem str_VT {n h b : Nat} {U : Sg} (v2 : VTb n h b U) : (∀ k, k < 8 → ∃ a, a < 12 ∧ strT n U 4 k = nI a) ∧ (∀ i j, i < n → j < n → strT n U 4 i = strT n U 4 j → i = j) := by
  obtain ⟨ms, mp, h1, h2', e1, e2, hs, hb'⟩ := strT_at v2
  have hn := v2.1.1
  have hd := VTd v2
  have at' : ∀ k, k < n → strT n U 4 k = nI (if ms.testBit k = true then pl U k else (pl U k + far (pl U k) (nI mp)) % 12) ∧ (ms.testBit k = false → mp.testBit (pl U k) = false) := by
    intro k hk
    refine ⟨?_, fun q => go_free hd hb' hk q⟩
    unfold strT
    rw [strN_at hk, e2, e1]
    by_cases hc : hb (nI ms) (nI k)
    · rw [if_pos hc, if_pos ((hb_n (by omega) (by omega)).mp hc)]
      exact (VTpl v2 (by omega)).1
    · rw [if_neg hc, if_neg (fun q => hc ((hb_n (by omega) (by omega)).mpr q))]
  refine ⟨fun k hk => ?_, fun i j hi hj e => ?_⟩
  · by_cases hkn : k < n
    · refine ⟨_, ?_, (at' k hkn).1⟩
      split
      · exact (VTpl v2 hk).2
      · exact Nat.mod_lt _ (by decide)
    · unfold strT
      rw [strN_ge n (by omega)]
      exact ⟨_, (VTpl v2 hk).2, (VTpl v2 hk).1⟩
  · obtain ⟨ei, fi⟩ := at' i hi
    obtain ⟨ej, fj⟩ := at' j hj
    have pi := (VTpl v2 (show i < 8 by omega)).2
    have pj := (VTpl v2 (show j < 8 by omega)).2
    rw [ei, ej] at e
    cases bi : ms.testBit i with
    | true =>
      cases bj : ms.testBit j with
      | true =>
        rw [if_pos bi, if_pos bj] at e
        exact hd i j hi hj ((nI_eq (by omega) (by omega)).mp e)
      | false =>
        rw [if_pos bi, if_neg (by rw [bj]; decide)] at e
        have e := (nI_eq (by omega) (by omega)).mp e
        have hf := far_free (m := mp) (by omega) pj (fj bj)
        rw [← e] at hf
        rw [(hb' (pl U i)).mpr ⟨i, hi, bi, rfl⟩] at hf
        cases hf
    | false =>
      cases bj : ms.testBit j with
      | true =>
        rw [if_neg (by rw [bi]; decide), if_pos bj] at e
        have e := (nI_eq (by omega) (by omega)).mp e
        have hf := far_free (m := mp) (by omega) pi (fi bi)
        rw [e] at hf
        rw [(hb' (pl U j)).mpr ⟨j, hj, bj, rfl⟩] at hf
        cases hf
      | false =>
        rw [if_neg (by rw [bi]; decide), if_neg (by rw [bj]; decide)] at e
        have e := (nI_eq (by omega) (by omega)).mp e
        exact hd i j hi hj (far_apart (m := mp) (by omega) pi pj (fi bi) (fj bj) e)
theorem VT_sell {n h : Nat} {T : Sg} (v : VT n h T) : VTb n h (h + 1) (sellN T n) := by
  have s : ∀ j, j ≠ 5 → j ≠ 6 → j ≠ 7 → sellN T n j = T j := fun j b c d => sellN_row b c d n
  obtain ⟨g5, g6⟩ := sell_VT v
  obtain ⟨v1, w4, w3, -, -, w1, w0, wd, w8⟩ := v
  unfold VTb
  rw [s 0 (by decide) (by decide) (by decide), s 4 (by decide) (by decide) (by decide), s 3 (by decide) (by decide) (by decide), s 1 (by decide) (by decide) (by decide), s 8 (by decide) (by decide) (by decide)]
  exact ⟨v1, w4, w3, g5, g6, w1, w0, wd, w8⟩
theorem VT_hr {n h : Nat} {T : Sg} (v : VT n h T) (hh : h + 1 ≤ 2000) : VT n (h + 1) (hrT n T) := by
  have vs := VT_sell v
  obtain ⟨p4, pd⟩ := str_VT vs
  have r : ∀ j, j ≠ 0 → hrT n T j = strT n (sellN T n) j := fun j hj => upr_out hj
  have s : ∀ j, j ≠ 4 → strT n (sellN T n) j = sellN T n j := fun j hj => strN_row hj n
  have r0 : hrT n T 0 = upd (sellN T n 0) 10 (sellN T n 0 10 + 1) := by
    unfold hrT
    rw [upr_in, s 0 (by decide)]
  obtain ⟨⟨v1, v2, v3, v4⟩, w4, w3, w5, w6, w1, w0, wd, w8⟩ := vs
  unfold VT VTb
  rw [r0, r 4 (by decide), r 3 (by decide), r 5 (by decide), r 6 (by decide), r 1 (by decide), r 8 (by decide), s 3 (by decide), s 5 (by decide), s 6 (by decide), s 1 (by decide), s 8 (by decide)]
  exact ⟨⟨v1, hh, v3, by show sellN T n 0 10 + 1 = nI (h + 1); rw [v4, nI_succ]⟩, p4, w3, w5, w6, w1, w0, pd, w8⟩
theorem VT_hrs {n h : Nat} {T : Sg} (v : VT n h T) : ∀ j, h + j ≤ 2000 → VT n (h + j) (hrsT n T j)
  | 0, _ => v
  | j + 1, hj => VT_hr (VT_hrs v j (by omega)) (by omega)
theorem VT_sellk {n h k : Nat} {T : Sg} (v : VT n h T) (hk : k ≤ n) : VTb n h (h + 1) (sellN T k) := by
  have s : ∀ j, j ≠ 5 → j ≠ 6 → j ≠ 7 → sellN T k j = T j := fun j b c d => sellN_row b c d k
  have g5 : ∀ i, i < 8 → ∃ g, g ≤ 99 ∧ sellN T k 5 i = nI g := by
    intro i hi
    by_cases hik : i < k
    · obtain ⟨g, x, hg, hx, eg, ex⟩ := selT_n v hi
      exact ⟨g - x, by omega, by rw [sellN_5 hik, eg, ex, pk_sub hx]⟩
    · rw [sellN_ge k (by omega)]
      exact v.2.2.2.1 i hi
  have g6 : ∀ i, i < 8 → ∃ c, c ≤ 495 * (h + 1) ∧ sellN T k 6 i = nI c := by
    intro i hi
    by_cases hik : i < k
    · obtain ⟨g, x, q, c, hg, hx, hq, hc, eg, ex, eq, ec⟩ := sell1_VT hi (v.2.2.2.2.1 i hi) v
      refine ⟨c + x * q, ?_, by rw [sellN_6 hik, ex, eq, ec, pk_mul, nI_add]⟩
      have : x * q ≤ 99 * 5 := Nat.mul_le_mul (by omega) hq
      omega
    · obtain ⟨c, hc, ec⟩ := v.2.2.2.2.1 i hi
      exact ⟨c, by omega, by rw [sellN_ge k (by omega)]; exact ec⟩
  obtain ⟨v1, w4, w3, -, -, w1, w0, wd, w8⟩ := v
  unfold VTb
  rw [s 0 (by decide) (by decide) (by decide), s 4 (by decide) (by decide) (by decide), s 3 (by decide) (by decide) (by decide), s 1 (by decide) (by decide) (by decide), s 8 (by decide) (by decide) (by decide)]
  exact ⟨v1, w4, w3, g5, g6, w1, w0, wd, w8⟩
