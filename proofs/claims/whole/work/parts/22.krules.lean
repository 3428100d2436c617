def kinvb (i : Nat) : Nat × Nat × Nat :=
  if i < 4 then (4, 0, i) else if i < 8 then (5, 0, i - 4) else if i < 12 then (6, 0, i - 8) else if i < 16 then (7, 0, i - 12) else if i = 16 then (3, 0, 4) else if i = 17 then (8, 0, 0) else if i = 18 then (3, 0, 5) else if i = 19 then (8, 0, 1)
  else if i < 44 then (9 + (i - 20) % 4, 0, (i - 20) / 4)
  else if (i - 44) % 24 = 0 then (14, (i - 44) / 24, 0) else if (i - 44) % 24 = 1 then (14, (i - 44) / 24, 1) else if (i - 44) % 24 < 14 then (15 + ((i - 44) % 24 - 2) % 3, (i - 44) / 24, ((i - 44) % 24 - 2) / 3)
  else if (i - 44) % 24 = 14 then (14, (i - 44) / 24, 5) else if (i - 44) % 24 = 15 then (14, (i - 44) / 24, 6) else if (i - 44) % 24 < 20 then (18, (i - 44) / 24, (i - 44) % 24 - 16) else (19, (i - 44) / 24, (i - 44) % 24 - 20)
def kinv (a i : Nat) : Nat × Nat × Nat × Nat :=
  if a < 10 then ((kinvb i).1, a, (kinvb i).2.1, (kinvb i).2.2) else if a = 10 then (2, i, 0, 0) else if a = 11 then (21, 0, 0, i) else if a = 12 then (20, 0, 0, i)
  else if a < 30 then (23, 0, 0, (a - 20) * 164 + i) else if a < 40 then (24, 0, 0, (a - 30) * 164 + i) else if a = 40 then (25, 0, 0, i) else if a = 41 then (26, 0, 0, i)
  else if a = 42 then (22, 0, 0, if i = 0 then 0 else if i = 1 then 1 else if i = 2 then 5 else 6) else if a = 50 then (27, 0, 0, i) else (28, 0, 0, i)
def kposb (k o s : Nat) : Option Nat := match kloc (k, 0, o) s with
  | .inl p => some p.2
  | .inr _ => none
theorem kposb_all : ((List.range 17).all fun k => (List.range 5).all fun o => (List.range 9).all fun s => (decide (k < 11) && decide (o ≠ 0)) || decide (klen 5 0 (k + 3, 0, o) ≤ s) || (match kposb (k + 3) o s with
  | some i => decide (kinvb i = (k + 3, o, s))
  | none => true)) = true := by decide +kernel
theorem kloc_b {k b o s a i : Nat} (h3 : 3 ≤ k) (h19 : k < 20) (h : kloc (k, b, o) s = .inl (a, i)) : a = b ∧ kposb k o s = some i := by
  have hc : k = 3 ∨ k = 4 ∨ k = 5 ∨ k = 6 ∨ k = 7 ∨ k = 8 ∨ k = 9 ∨ k = 10 ∨ k = 11 ∨ k = 12 ∨ k = 13 ∨ k = 14 ∨ k = 15 ∨ k = 16 ∨ k = 17 ∨ k = 18 ∨ k = 19 := by omega
  rcases hc with rfl | rfl | rfl | rfl | rfl | rfl | rfl | rfl | rfl | rfl | rfl | rfl | rfl | rfl | rfl | rfl | rfl
  all_goals
    simp only [kposb, kloc, klocs, List.getD_cons_zero, List.getD_cons_succ] at h ⊢
  all_goals (repeat' split at h)
  all_goals cases h
  all_goals first
    | exact ⟨rfl, rfl⟩
    | (refine ⟨rfl, ?_⟩; simp [*])
theorem klen_b {n L k b o : Nat} (h3 : 3 ≤ k) (h19 : k < 20) (h13 : k ≠ 13) : klen n L (k, b, o) = klen 5 0 (k, 0, o) := by
  have hc : k = 3 ∨ k = 4 ∨ k = 5 ∨ k = 6 ∨ k = 7 ∨ k = 8 ∨ k = 9 ∨ k = 10 ∨ k = 11 ∨ k = 12 ∨ k = 14 ∨ k = 15 ∨ k = 16 ∨ k = 17 ∨ k = 18 ∨ k = 19 := by omega
  rcases hc with rfl | rfl | rfl | rfl | rfl | rfl | rfl | rfl | rfl | rfl | rfl | rfl | rfl | rfl | rfl | rfl <;> rfl
theorem klen9 {k o : Nat} (h3 : 3 ≤ k) (h19 : k < 20) : klen 5 0 (k, 0, o) ≤ 9 := by
  have hc : k = 3 ∨ k = 4 ∨ k = 5 ∨ k = 6 ∨ k = 7 ∨ k = 8 ∨ k = 9 ∨ k = 10 ∨ k = 11 ∨ k = 12 ∨ k = 13 ∨ k = 14 ∨ k = 15 ∨ k = 16 ∨ k = 17 ∨ k = 18 ∨ k = 19 := by omega
  rcases hc with rfl | rfl | rfl | rfl | rfl | rfl | rfl | rfl | rfl | rfl | rfl | rfl | rfl | rfl | rfl | rfl | rfl <;> simp [klen]
theorem kinv_ok {n L : Nat} {κ : Ky} {s a i : Nat} (hn : n ≤ 5) (hk : kok n κ = true) (hs : s < klen n L κ) (h : kloc κ s = .inl (a, i)) : kinv a i = (κ.1, κ.2.1, κ.2.2, s) := by
  obtain ⟨k, b, o⟩ := κ
  obtain ⟨h1, h2, h3⟩ := kok_bounds hn hk
  dsimp only at h1 h2 h3 ⊢
  by_cases hb : 3 ≤ k ∧ k < 20
  · obtain ⟨rfl, hp⟩ := kloc_b hb.1 hb.2 h
    have hne : k ≠ 13 := by
      rintro rfl
      cases h
    rw [klen_b hb.1 hb.2 hne] at hs
    have h9 := klen9 (o := o) hb.1 hb.2
    have hall := kposb_all
    simp only [List.all_eq_true, List.mem_range] at hall
    have h4 := hall (k - 3) (by omega) o h3 s (by omega)
    rw [Nat.sub_add_cancel hb.1, hp] at h4
    simp only [Bool.or_eq_true, Bool.and_eq_true, decide_eq_true_eq] at h4
    have ho : ¬ (k - 3 < 11 ∧ o ≠ 0) := by
      rintro ⟨x1, x2⟩
      unfold kok at hk
      rw [if_neg (by show ¬ k = 2; omega), if_pos (by show 3 ≤ k ∧ k ≤ 13; omega)] at hk
      simp only [Bool.and_eq_true, decide_eq_true_eq] at hk
      exact x2 hk.2
    have h5 : kinvb i = (k, o, s) := by
      rcases h4 with (h4 | h4) | h4
      · exact absurd h4 ho
      · omega
      · exact h4
    unfold kinv
    rw [if_pos h2, h5]
  · have hc : k = 0 ∨ k = 1 ∨ k = 2 ∨ k = 20 ∨ k = 21 ∨ k = 22 ∨ k = 23 ∨ k = 24 ∨ k = 25 ∨ k = 26 ∨ k = 27 ∨ k = 28 := by omega
    rcases hc with rfl | rfl | rfl | rfl | rfl | rfl | rfl | rfl | rfl | rfl | rfl | rfl
    all_goals
      simp only [klen, kloc, klocs, List.getD_cons_zero, List.getD_cons_succ] at hs h
    all_goals
      simp [kok] at hk
    · split at h <;> cases h
    · cases h
    · split at h
      · rename_i h0
        cases h
        rw [hk.2, h0]
        rfl
      · split at h <;> cases h
    · obtain ⟨rfl, rfl⟩ := hk
      split at h
      · rename_i h0
        cases h
        rw [h0]
        rfl
      · split at h
        · rename_i h0
          cases h
          rw [h0]
          rfl
        · cases h
    · obtain ⟨rfl, rfl⟩ := hk
      cases h
      rfl
    · obtain ⟨rfl, rfl⟩ := hk
      repeat' split at h
      all_goals cases h
      all_goals (rename_i h0; rw [h0]; rfl)
    · obtain ⟨rfl, rfl⟩ := hk
      cases h
      unfold kinv
      rw [if_neg (by omega), if_neg (by omega), if_neg (by omega), if_neg (by omega), if_pos (by omega)]
      simp only [Prod.mk.injEq, true_and]
      omega
    · obtain ⟨rfl, rfl⟩ := hk
      cases h
      unfold kinv
      rw [if_neg (by omega), if_neg (by omega), if_neg (by omega), if_neg (by omega), if_neg (by omega), if_pos (by omega)]
      simp only [Prod.mk.injEq, true_and]
      omega
    all_goals
      obtain ⟨rfl, rfl⟩ := hk
      cases h
      rfl
