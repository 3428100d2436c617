theorem bit_hi {m j : Nat} (hm : m < 2 ^ 16) (hj : 16 ≤ j) : m / 2 ^ j % 2 = 0 := by
  have : m < 2 ^ j := Nat.lt_of_lt_of_le hm (Nat.pow_le_pow_right (by omega) hj)
  rw [Nat.div_eq_of_lt this]
theorem bit_half {m j : Nat} : m / 2 / 2 ^ j = m / 2 ^ (j + 1) := by
  rw [Nat.div_div_eq_div_mul, Nat.pow_succ, Nat.mul_comm]
theorem seen_slide1 {m f y : Nat} (hm : m < 2 ^ 16) (h : m % 2 = 1) : seen (m / 2) (f + 1) y = seen m f y := by
  unfold seen
  by_cases h1 : y < f
  · simp [h1, show y < f + 1 by omega]
  · by_cases h2 : y = f
    · subst h2
      simp [h]
    · have e : y - f = y - (f + 1) + 1 := by omega
      rw [bit_half, ← e]
      by_cases h3 : y - f < 16
      · simp [h1, h3, show ¬ y < f + 1 by omega, show y - (f + 1) < 16 by omega]
      · by_cases h4 : y - f = 16
        · have := bit_hi (m := m) (j := y - f) hm (by omega)
          simp [h1, h3, show ¬ y < f + 1 by omega, this]
        · simp [h1, h3, show ¬ y < f + 1 by omega, show ¬ y - (f + 1) < 16 by omega]
theorem slide_all : ∀ (k m f N : Nat), m < 2 ^ 16 → m < 2 ^ k → f ≤ N → (∀ j, j < 16 → m / 2 ^ j % 2 = 1 → f + j < N) →
    (∀ y, seen (slide k m f).1 (slide k m f).2 y = seen m f y) ∧ f ≤ (slide k m f).2 ∧ (slide k m f).2 ≤ N ∧ (slide k m f).1 < 2 ^ 16 ∧ (slide k m f).1 % 2 = 0 ∧ (∀ j, j < 16 → (slide k m f).1 / 2 ^ j % 2 = 1 → (slide k m f).2 + j < N)
  | 0, m, f, N, hm, hk, hf, hb => by
    have hm0 : m = 0 := by omega
    subst hm0
    exact ⟨fun y => rfl, Nat.le_refl _, hf, hm, rfl, hb⟩
  | k + 1, m, f, N, hm, hk, hf, hb => by
    unfold slide
    by_cases h : m % 2 = 1
    · rw [if_pos h]
      have h0 := hb 0 (by omega) (by rw [Nat.pow_zero, Nat.div_one]; exact h)
      have hk2 : m / 2 < 2 ^ k := by
        rw [Nat.pow_succ] at hk
        omega
      obtain ⟨s1, s2, s3, s4, s5, s6⟩ := slide_all k (m / 2) (f + 1) N (by omega) hk2 (by omega) (by
        intro j hj hbj
        rw [bit_half] at hbj
        by_cases hj2 : j + 1 < 16
        · have := hb (j + 1) hj2 hbj
          omega
        · rw [bit_hi hm (by omega)] at hbj
          cases hbj)
      exact ⟨fun y => by rw [s1 y, seen_slide1 hm h], by omega, s3, s4, s5, s6⟩
    · rw [if_neg h]
      exact ⟨fun y => rfl, Nat.le_refl _, hf, hm, by omega, hb⟩
theorem bit_or {m k j : Nat} : (m ||| 2 ^ k) / 2 ^ j % 2 = 1 ↔ m / 2 ^ j % 2 = 1 ∨ k = j := by
  have h1 : ∀ a b : Nat, a / 2 ^ b % 2 = 1 ↔ a.testBit b = true := by
    intro a b
    rw [Nat.testBit_eq_decide_div_mod_eq, decide_eq_true_eq]
  rw [h1, h1, Nat.testBit_or, Bool.or_eq_true, Nat.testBit_two_pow, decide_eq_true_eq]
theorem seen_or {m f x y : Nat} (hx : f ≤ x) (hx2 : x < f + 16) : seen (m ||| 2 ^ (x - f)) f y = true ↔ seen m f y = true ∨ y = x := by
  unfold seen
  simp only [Bool.or_eq_true, Bool.and_eq_true, decide_eq_true_eq]
  rw [bit_or]
  constructor
  · rintro (h | ⟨h, h2 | h2⟩)
    · exact Or.inl (Or.inl h)
    · exact Or.inl (Or.inr ⟨h, h2⟩)
    · by_cases h3 : y < f
      · exact Or.inl (Or.inl h3)
      · exact Or.inr (by omega)
  · rintro ((h | ⟨h, h2⟩) | h)
    · exact Or.inl h
    · exact Or.inr ⟨h, Or.inl h2⟩
    · exact Or.inr ⟨by omega, Or.inr (by omega)⟩
theorem OpL_seen {R : Nat → Int32} {r c N m f m' f' : Nat} (h : ∀ y, seen m f y = true → seen m' f' y = true) : OpL R r c N m f → OpL R r c N m' f' := by
  rintro ⟨q, h1, h2, h3, h4⟩
  refine ⟨q, h1, h2, fun x hx hs => h3 x hx ?_, h4⟩
  cases hc : seen m f x with
  | false => rfl
  | true =>
    rw [h x hc] at hs
    cases hs
theorem Inv_mark {n B t o a x m f : Nat} {α : Ks} {v : Int32} (ht : t < n) (ho : o < n) (hn : n ≤ 5) (hB : B < 2 ^ 29) (ha : a < 4) (hm : α t (44 + 24 * o + 15) = nI m) (hf : α t (44 + 24 * o + 14) = nI f) (hm2 : m < 2 ^ 16) (hf2 : f < 2 ^ 29) (hx : f ≤ x) (hx2 : x < f + 16) (hxN : x < cn (α o (44 + 24 * t))) (h : Inv n B α) : Inv n B (aDown (kup (aMark α t o x) t a v) t) := by
  obtain ⟨i1, i2, i3, i4⟩ := Inv_down ht hn h
  have ho1 : aDown α t t = α t := by
    funext y
    unfold aDown
    rw [krow_ne (by omega)]
  have ho2 : aDown α t (5 + t) = α t := krow_row
  obtain ⟨N, c, c', f0, m0, a1, a2, a3, a4, a5, a6, a7, a8, ⟨b1, b2, b3, b4⟩, ⟨d1, d2, d3, d4⟩, e1, e2⟩ := i3 o t ho ht
  rw [ho1] at d1 d3
  have hff : f0 = f := by
    rw [hf] at d1
    exact ((nI_eq (by omega) (by omega)).mp d1).symm
  subst hff
  have hmm : m0 = m := by
    rw [hm] at d3
    exact ((nI_eq (by omega) (by omega)).mp d3).symm
  subst hmm
  have hrN : aDown α t o (44 + 24 * t) = α o (44 + 24 * t) := by
    unfold aDown
    rw [krow_ne (by omega)]
  have hxN' : x < N := by
    rw [← hrN, b1] at hxN
    unfold cn at hxN
    rw [nI_clamp (by omega)] at hxN
    exact hxN
  have hlt : m0 ||| 2 ^ (x - f0) < 2 ^ 16 := Nat.or_lt_two_pow hm2 (Nat.pow_lt_pow_right (by omega) (by omega))
  obtain ⟨s1, s2, s3, s4, s5, s6⟩ := slide_all 16 (m0 ||| 2 ^ (x - f0)) f0 N hlt hlt a2 (by
    intro j hj hb
    rcases bit_or.mp hb with hb | hb
    · exact a8 j hj hb
    · omega)
  have hmark : aMark α t o x = aBits α t o (slide 16 (m0 ||| 2 ^ (x - f0)) f0).1 (slide 16 (m0 ||| 2 ^ (x - f0)) f0).2 := by
    unfold aMark cn
    rw [hm, hf, nI_clamp (by omega), nI_clamp (by omega)]
  rw [hmark]
  generalize (slide 16 (m0 ||| 2 ^ (x - f0)) f0).1 = m' at s1 s4 s5 s6 ⊢
  generalize (slide 16 (m0 ||| 2 ^ (x - f0)) f0).2 = f' at s1 s2 s3 s6 ⊢
  have hmono : ∀ y, seen m0 f0 y = true → seen m' f' y = true := by
    intro y hy
    rw [s1 y]
    exact (seen_or hx hx2).mpr (Or.inl hy)
  have hr0 : ∀ x, x ≠ t → x ≠ 5 + t → aDown (kup (aBits α t o m' f') t a v) t x = aDown α t x := by
    intro x hx hx2
    funext y
    unfold aDown
    rw [krow_ne hx2, krow_ne hx2, kup_ne (by omega)]
    unfold aBits
    rw [kup_ne (by omega), kup_ne (by omega)]
  have hr1 : aDown (kup (aBits α t o m' f') t a v) t t = (kup (aBits α t o m' f') t a v) t := by
    funext y
    unfold aDown
    rw [krow_ne (by omega)]
  have hr2 : aDown (kup (aBits α t o m' f') t a v) t (5 + t) = (kup (aBits α t o m' f') t a v) t := krow_row
  have hin : ∀ y, 4 ≤ y ∧ y ≠ 44 + 24 * o + 14 ∧ y ≠ 44 + 24 * o + 15 → (kup (aBits α t o m' f') t a v) t y = α t y := by
    intro y hy
    rw [kup_ne (by omega)]
    unfold aBits
    rw [kup_ne (by omega), kup_ne (by omega)]
  have hb15 : (kup (aBits α t o m' f') t a v) t (44 + 24 * o + 15) = nI m' := by
    rw [kup_ne (by omega), aBits_bits]
  have hb14 : (kup (aBits α t o m' f') t a v) t (44 + 24 * o + 14) = nI f' := by
    rw [kup_ne (by omega), aBits_floor]
  have hout : ∀ x y, 4 ≤ y ∧ y ≠ 44 + 24 * o + 14 ∧ y ≠ 44 + 24 * o + 15 → aDown (kup (aBits α t o m' f') t a v) t x y = aDown α t x y := by
    intro x y hy
    by_cases h1 : x = t
    · rw [h1, hr1, ho1, hin y hy]
    · by_cases h2 : x = 5 + t
      · rw [h2, hr2, ho2, hin y hy]
      · rw [hr0 x h1 h2]
  refine ⟨fun s hs => ?_, fun s hs => ?_, fun g r hg hr => ?_, ?_⟩
  · unfold UpOk
    rw [hr0 10 (by omega) (by omega)]
    exact i1 s hs
  · exact ⟨RowOk_congr2 (fun y hy => hout s y (by omega)) (i2 s hs).1, RowOk_congr2 (fun y hy => hout (5 + s) y (by omega)) (i2 s hs).2⟩
  · have h0 : PairR (aDown α t g) (aDown α t (5 + g)) (aDown α t r) (aDown α t (5 + r)) g r B := i3 g r hg hr
    unfold PairOk
    by_cases hgr : g = o ∧ r = t
    · obtain ⟨rfl, rfl⟩ := hgr
      refine ⟨N, c, c', f', m', a1, s3, by omega, s4, s5, a6, a7, s6, ?_, ?_, ?_, ?_⟩
      · rw [hout g _ (by omega), hout (5 + g) _ (by omega), hout g _ (by omega), hout (5 + g) _ (by omega)]
        exact ⟨b1, b2, b3, b4⟩
      · rw [hr1, hr2]
        exact ⟨hb14, hb14, hb15, hb15⟩
      · exact OpL_congr2 a6 (fun k hk => hout g _ (by omega)) (OpL_seen hmono e1)
      · exact OpL_congr2 a7 (fun k hk => hout (5 + g) _ (by omega)) (OpL_seen hmono e2)
    · refine PairR_congr2 (Nat.le_refl _) (fun k hk => hout g _ (by omega)) (fun k hk => hout (5 + g) _ (by omega)) ?_ ?_ h0
      · by_cases hrt : r = t
        · exact ⟨hout r _ (by omega), hout r _ (by omega)⟩
        · rw [hr0 r hrt (by omega)]
          exact ⟨rfl, rfl⟩
      · by_cases hrt : r = t
        · exact ⟨hout (5 + r) _ (by omega), hout (5 + r) _ (by omega)⟩
        · rw [hr0 (5 + r) (by omega) (by omega)]
          exact ⟨rfl, rfl⟩
  · refine NetOk_mono (fun y => by rw [hr0 11 (by omega) (by omega)]) (by rw [hr0 12 (by omega) (by omega)]) ?_ ?_ i4
    · intro f s hf hs
      rw [hout f _ (by omega)]
      exact Nat.le_refl _
    · intro f s z hf hs
      unfold seenA
      by_cases hft : f = t
      · by_cases hso : s = o
        · rw [hft, hso, hr1, ho1, hb14, hb15, hm, d1]
          unfold cn
          rw [nI_clamp (by omega), nI_clamp (by omega), nI_clamp (by omega), nI_clamp (by omega)]
          exact hmono z
        · rw [hout f _ (by omega), hout f _ (by omega)]
          exact id
      · rw [hr0 f hft (by omega)]
        exact id
/-- what the methods need, out of the invariant -/
theorem Inv_res {n B t : Nat} {α : Ks} (ht : t < n) (h : Inv n B α) : ∃ c, ResOk α t c := by
  obtain ⟨⟨c, c1, c2, c3⟩, -⟩ := (h.2.1 t ht).1
  exact ⟨c, c2, c1, c3⟩
theorem Inv_clk {n B t : Nat} {α : Ks} (ht : t < n) (h : Inv n B α) : ∃ k, k ≤ B ∧ α t 16 = nI k := (h.2.1 t ht).1.2.1
theorem Inv_cnt {n B : Nat} {α : Ks} (h : Inv n B α) : CntOk α := by
  obtain ⟨c, c1, c2, -⟩ := h.2.2.2
  exact ⟨c, c1, c2⟩
theorem Inv_opn {n B t o : Nat} {α : Ks} (hB : B < 2 ^ 29) (ht : t < n) (ho : o < n) (h : Inv n B α) : OpnOk α t o := by
  obtain ⟨N, c, c', f, m, a1, a2, a3, a4, a5, a6, a7, a8, ⟨b1, b2, b3, b4⟩, d, ⟨q, q1, -⟩, e2⟩ := h.2.2.1 t o ht ho
  refine ⟨c, b3, a6, fun i hi => ⟨q i, ?_, (q1 i hi).1⟩⟩
  have := (q1 i hi).2
  omega
theorem Inv_see {n B t o : Nat} {α : Ks} (hB : B < 2 ^ 29) (ht : t < n) (ho : o < n) (h : Inv n B α) : SeeOk α t o := by
  obtain ⟨N, c, c', f, m, a1, a2, a3, a4, a5, a6, a7, a8, b, ⟨d1, d2, d3, d4⟩, e1, e2⟩ := h.2.2.1 o t ho ht
  exact ⟨m, f, d3, d1, a4, by omega⟩
/-- what giving needs -/
theorem Inv_gv {n B t o : Nat} {α : Ks} (hB : B < 2 ^ 29) (ht : t < n) (ho : o < n) (h : Inv n B α) : ∃ N c q, α t (44 + 24 * o) = nI N ∧ α t (44 + 24 * o + 1) = nI c ∧ (0 < c → α t (44 + 24 * o + 2) = nI q ∧ q ≤ N) ∧ c ≤ 4 ∧ N < 2 ^ 29 := by
  obtain ⟨N, c, c', f, m, a1, a2, a3, a4, a5, a6, a7, a8, ⟨b1, b2, b3, b4⟩, d, ⟨q, q1, -⟩, e2⟩ := h.2.2.1 t o ht ho
  refine ⟨N, c, q 0, b1, b3, fun hc => ?_, a6, by omega⟩
  have h1 := (q1 0 hc).1
  have h2 := (q1 0 hc).2
  rw [Nat.mul_zero, Nat.add_zero] at h1
  exact ⟨h1, by omega⟩
theorem Inv_aRem {n B t i c : Nat} {α : Ks} (ht : t < n) (hn : n ≤ 5) (hr : ResOk α t (c + 1)) (hi : i ≤ c) (h : Inv n B α) : Inv n B (aRem α t i c) := by
  obtain ⟨r1, r2, r3⟩ := hr
  obtain ⟨a, ha, hae⟩ := r3 i (by omega)
  have hcn : cn (α t (20 + 4 * i + 1)) = a := by rw [hae]; unfold cn; rw [nI_clamp (by omega)]
  unfold aRem
  rw [hcn]
  have h2 := Inv_remR (i := i) (c := c) ht hn (by rw [kup_ne (by omega)]; exact r1) r2 hi (Inv_small (y := a) (v := α t a + α t (20 + 4 * i + 2)) ht hn (by omega) h)
  rw [krow_kup] at h2
  exact h2
theorem Inv_rel {n B t : Nat} (ht : t < n) (hn : n ≤ 5) : ∀ {k i : Nat} {α : Ks}, ResOk α t (i + k) → Inv n B α → Inv n B (aRel t k i α).1
  | 0, i, α, _, h => h
  | k + 1, i, α, hr, h => by
    unfold aRel
    split
    · exact Inv_rel ht hn (ResOk_rem (c := i + k) hr (by omega)) (Inv_aRem ht hn (c := i + k) hr (by omega) h)
    · exact Inv_rel ht hn (by rw [show i + 1 + k = i + (k + 1) by omega]; exact hr) h
theorem Inv_sendO {n B t o : Nat} (hB : B < 2 ^ 29) (ht : t < n) (ho : o < n) (hn : n ≤ 5) : ∀ {k i : Nat} {α : Ks}, α t (44 + 24 * o + 1) = nI (i + k) → i + k ≤ 4 → Inv n B α → Inv n B (aSendO t o k i α)
  | 0, i, α, _, _, h => h
  | k + 1, i, α, hc, hc2, h => by
    unfold aSendO
    obtain ⟨N, c, c', f, m, a1, a2, a3, a4, a5, a6, a7, a8, ⟨b1, b2, b3, b4⟩, d, ⟨q, q1, q2, q3, q4⟩, e2⟩ := h.2.2.1 t o ht ho
    have hcc : c = i + (k + 1) := by
      rw [hc] at b3
      exact ((nI_eq (by omega) (by omega)).mp b3).symm
    subst hcc
    obtain ⟨h1, h2⟩ := q1 i (by omega)
    obtain ⟨a, ha, hae⟩ := q4 i (by omega)
    refine Inv_sendO hB ht ho hn ?_ (by omega) (Inv_send hn (by omega) ht ho ?_ h)
    · rw [aSend_row (by omega), hc]
      congr 1
      omega
    · refine ⟨fun _ => ⟨q i, a, h1, ha, hae, ?_⟩, fun e => absurd e (by omega), fun e => absurd e (by omega), fun e => absurd e (by omega)⟩
      rw [b1]
      unfold cn
      rw [nI_clamp (by omega)]
      exact h2
theorem Inv_sendA {n B t : Nat} (hB : B < 2 ^ 29) (ht : t < n) (hn : n ≤ 5) : ∀ {k o : Nat} {α : Ks}, o + k ≤ n → Inv n B α → Inv n B (aSendA t k o α)
  | 0, o, α, _, h => h
  | k + 1, o, α, ho, h => by
    unfold aSendA
    obtain ⟨c, hc, hc2, -⟩ := Inv_opn hB ht (show o < n by omega) h
    rw [hc]
    unfold cn
    rw [nI_clamp (by omega)]
    exact Inv_sendA hB ht hn (by omega) (Inv_sendO hB ht (by omega) hn (by rw [Nat.zero_add]; exact hc) (by omega) h)
theorem Inv_news {n B t : Nat} {α : Ks} (hB : B < 2 ^ 29) (ht : t < n) (hn : 2 ≤ n ∧ n ≤ 5) (h : Inv n B α) : Inv n B (aNews n α t) := by
  unfold aNews
  split
  · exact h
  · rename_i hne
    have hmod : cn (α t 16) % n < n := Nat.mod_lt _ (by omega)
    refine Inv_small ht hn.2 (by omega) (Inv_send hn.2 (by omega) ht hmod ?_ h)
    exact ⟨fun e => absurd e (by omega), fun e => absurd e (by omega), fun _ => ⟨fun q => hne q.symm, _, Nat.mod_lt _ (by omega), rfl⟩, fun e => absurd e (by omega)⟩
theorem Inv_pass {n B t c : Nat} {α : Ks} (hB : B + 1 < 2 ^ 29) (ht : t < n) (hn : 2 ≤ n ∧ n ≤ 5) (hr : ResOk α t c) (h : Inv n B α) : Inv n (B + 1) (aPass n α t c) := by
  obtain ⟨k, hk, hke⟩ := Inv_clk ht h
  have hr1 : ResOk (kup α t 16 (α t 16 + nI 1)) t (0 + c) := by
    rw [Nat.zero_add]
    obtain ⟨h1, h2, h3⟩ := hr
    refine ⟨by rw [kup_ne (by omega)]; exact h1, h2, ?_⟩
    intro i hi
    rw [kup_ne (by omega)]
    exact h3 i hi
  have h1 : Inv n (B + 1) (kup α t 16 (α t 16 + nI 1)) := by
    rw [hke, nI_add]
    exact Inv_clock ht hn.2 (by omega) h
  unfold aPass
  exact Inv_news hB ht hn (Inv_sendA hB ht hn.2 (by omega) (Inv_rel ht hn.2 hr1 h1))
