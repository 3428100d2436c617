section ZS3
set_option maxHeartbeats 8000000 in
theorem zsound (l : Launch) (hl : l.stackTraces = false) {s0 : State} {D : va_G} {b : Nat} : ∀ n, zIH l s0 D b n
  | 0 => fun j pc ls st h cl r hrun => by cases hrun
  | n + 1 => by
    have ih := zsound l hl (s0 := s0) (D := D) (b := b) n
    intro j pc ls st h cl r hrun p e R s m args below meth c H locs N q h0 hC hls hR hL hlen hcl
    have hC0 := hC
    obtain ⟨⟨hexec, htr, hB, hE⟩, ⟨hN, hq, hok⟩, ⟨hb, hml, htab, hret, hlocks, hown, hname⟩, hfr, hlo, hce, hsl⟩ := hC
    have hml2 : (zls b s0.heap.size ls).size = c.maxLocals := by rw [hml, ← hls]; exact zls_size
    unfold zrun at hrun
    obtain ⟨M, hM, h1⟩ := Option.bind_eq_some_iff.mp hrun
    cases hN.symm.trans hM
    obtain ⟨⟨ins, ax⟩, hlk, h2⟩ := Option.bind_eq_some_iff.mp h1
    obtain ⟨hd, hev⟩ := zmok_ent hok hq hN hlk
    dsimp only at h2
    split at h2
    · obtain ⟨r0, hr0, h3⟩ := Option.bind_eq_some_iff.mp h2
      obtain ⟨nn, hd1, hd2⟩ := hd
      exact zfr_ok hexec hb hd1 hd2 hr0 (ih j _ _ _ h cl r h3 p e R s m args below meth c H locs N q h0 hC0 (by rw [zfr_len hr0]; exact hls) hR hL hlen hcl)
    · obtain ⟨r0, hr0, h3⟩ := Option.bind_eq_some_iff.mp h2
      refine zhp_ok hC0 hd hev hr0 hR hL hlen fun H' locs' g1 g2 g3 g4 => ?_
      refine ih j _ _ _ _ _ r h3 p e R s m args below meth c H' locs' N q h0 hC0 hls g1 g2 g3 fun hb => ?_
      rw [Bool.and_eq_true] at hb
      obtain ⟨k1, k2⟩ := hcl hb.1
      obtain ⟨k3, k4⟩ := g4 (by simpa using hb.2)
      exact ⟨by rw [k4]; exact k1, by rw [k3]; exact k2⟩
    · rename_i hk0 hk1
      clear hk0 hk1
      split at h2
      · obtain ⟨v, r1, rfl, h3⟩ := zi1_some h2
        split at h3
        · rename_i hv
          obtain ⟨rfl, hv⟩ := hv
          cases h3
          exact zret_ok hC0 hR hL hlen hcl (zdec1 hd rfl) hv
        · cases h3
      · split at h2
        · rename_i hv
          obtain ⟨rfl, hv⟩ := hv
          cases h2
          exact zvret_ok hC0 hR hL hlen hcl (zdec1 hd rfl) hv
        · cases h2
      · rename_i idx v tl
        cases tl with
        | nil => cases hev
        | cons w tl =>
          have hev : decide (lw_tbl[w]? = some (Cond.constant q.1.cls idx (Int32.ofNat v))) = true := hev
          exact zldc_ok hexec hb hB hE hown (zdec1 hd rfl) (of_decide_eq_true hev) (ih j _ _ _ h cl r h2 p e R s m args below meth c H locs N q h0 hC0 hls hR hL hlen hcl)
      · rename_i idx v tl
        cases tl with
        | nil => cases hev
        | cons w tl =>
          have hev : decide (lw_tbl[w]? = some (Cond.constant q.1.cls idx (Int32.ofNat v))) = true := hev
          exact zldcw_ok hexec hb hB hE hown (zdec1 hd rfl) (of_decide_eq_true hev) (ih j _ _ _ h cl r h2 p e R s m args below meth c H locs N q h0 hC0 hls hR hL hlen hcl)
      · rename_i idx t tl
        cases tl with
        | nil => cases hev
        | cons w tl =>
          have hev : (if t < 7 then zevn q.1.cls idx t w else decide (lw_tbl[w]? = some (Cond.classLink q.1.cls idx (zexq t)))) = true := hev
          split at h2
          · rename_i ht
            rw [if_pos ht] at hev
            split at h2
            · rename_i hcap
              have hlen1 := hlen.1
              refine znew_ok hexec hb hB hE hR hown ht (zdec1 hd rfl) hev (by omega) (by omega) fun H' g1 => ?_
              have K := ih j _ _ _ _ _ r h2 p e R s m args below meth c H' locs N q h0 hC0 hls g1 hL ⟨by simp; omega, by simp; omega⟩ (fun hb => by cases hb)
              have e1 : (h ++ [(t, znewv t)]).length - h0.length = h.length - h0.length + 1 := by simp; omega
              rw [e1, show 820 * (h.length - h0.length + 1) = 820 * (h.length - h0.length) + 820 by omega] at K
              exact K
            · cases h2
          · rename_i ht
            rw [if_neg ht] at hev
            unfold zthr at h2
            obtain ⟨⟨i3, a3⟩, k3, h3⟩ := Option.bind_eq_some_iff.mp h2
            obtain ⟨⟨i4, a4⟩, k4, h4⟩ := Option.bind_eq_some_iff.mp h3
            obtain ⟨⟨i6, a6⟩, k6, h6⟩ := Option.bind_eq_some_iff.mp h4
            obtain ⟨⟨i9, a9⟩, k9, h9⟩ := Option.bind_eq_some_iff.mp h6
            obtain ⟨d3, v3⟩ := zmok_ent hok hq hN k3
            obtain ⟨d4, v4⟩ := zmok_ent hok hq hN k4
            obtain ⟨d6, v6⟩ := zmok_ent hok hq hN k6
            obtain ⟨d9, v9⟩ := zmok_ent hok hq hN k9
            dsimp only at h9
            split at h9
            · rename_i sidx tl4 ic t' tl6 he4 he6
              cases he4
              cases he6
              split at h9
              · rename_i hx
                obtain ⟨x1, x2, x3, x4, x5, x6, x7, x8, x9⟩ := hx
                cases h9
                cases tl4 with
                | nil => cases v4
                | cons w4 tl4 =>
                  cases tl6 with
                  | nil => cases v6
                  | cons w6 tl6 =>
                    have v6 : decide (lw_tbl[w6]? = some (Cond.methodLink q.1.cls ic (Bundle.initS (zexn.getD t' "")))) = true := v6
                    have hln : lw_tbl[w6]? = some (Cond.methodLink q.1.cls ic (Bundle.initS (zexq t))) := by
                      have := of_decide_eq_true v6
                      rw [this]
                      unfold zexq
                      rw [x3, Nat.add_sub_cancel_left]
                    have hs : ∃ tx, lw_tbl[w4]? = some (Cond.stringRef q.1.cls sidx tx) := by
                      have v4 : (match lw_tbl[w4]? with
                        | some (.stringRef o k _) => decide (o = q.1.cls) && decide (k = sidx)
                        | _ => false) = true := v4
                      split at v4
                      · rename_i o k tx hw
                        simp only [Bool.and_eq_true, decide_eq_true_eq] at v4
                        obtain ⟨rfl, rfl⟩ := v4
                        exact ⟨tx, hw⟩
                      · cases v4
                    obtain ⟨tx, hs⟩ := hs
                    obtain ⟨y1, y2⟩ := hcl x9
                    subst y1
                    subst y2
                    have htab2 : c.exceptionTable.toList = [] := by rw [htab, x4]; rfl
                    rw [Nat.sub_self, Nat.mul_zero]
                    exact zthrow_ok hexec hb htr hB hE hR hown hml2 hlocks htab2 (zdec1 hd rfl) (zdec1 d3 rfl) (zdec1 d4 rfl) (zdec1 d6 rfl) (zdec1 d9 rfl) ⟨x1, x2⟩ (of_decide_eq_true hev) hs hln (by omega) (by omega) x7 x8 (by omega) (by omega)
              · cases h9
            · cases h9
      · rename_i idx tl
        cases tl with
        | nil => cases hev
        | cons w tl =>
          have hev : decide (lw_tbl[w]? = some (Cond.methodLink q.1.cls idx Lib.objectInit)) = true := hev
          obtain ⟨a, r1, rfl, h3⟩ := zr1_some h2
          split at h3
          · rename_i hx
            obtain ⟨x1, x2, x3⟩ := hx
            exact zobi_ok hexec hb hml2 hB hE hown (zdec1 hd rfl) (of_decide_eq_true hev) (by omega) (by omega) x3 (ih j _ _ _ h cl r h3 p e R s m args below meth c H locs N q h0 hC0 hls hR hL hlen hcl)
          · cases h3
      · rename_i idx tl
        cases tl with
        | nil => cases hev
        | cons w tl =>
          have hev : decide (lw_tbl[w]? = some (Cond.methodLink q.1.cls idx arraycopyName)) = true := hev
          obtain ⟨k, r1, rfl, h31⟩ := zi1_some h2
          obtain ⟨dp, r2, rfl, h32⟩ := zi1_some h31
          obtain ⟨a, r3, rfl, h33⟩ := zp1_some h32
          obtain ⟨sp, r4, rfl, h34⟩ := zi1_some h33
          obtain ⟨x, r5, rfl, h35⟩ := zr1_some h34
          obtain ⟨cx, hx, h4⟩ := Option.bind_eq_some_iff.mp h35
          obtain ⟨ca, ha, h5⟩ := Option.bind_eq_some_iff.mp h4
          split at h5
          · rename_i hx2
            obtain ⟨x1, x2, x3, x4, x5, x6, x7, x8, x9, x10, x11⟩ := hx2
            refine zcopy_ok hexec hb hml2 hB hE hR hL hown (zdec1 hd rfl) (of_decide_eq_true hev) hx ha x1 x2 x3 x4 x5 x6 x7 x8 (by omega) (by omega) x11 fun H' locs' g1 g2 => ?_
            have K := ih j _ _ _ _ _ r h5 p e R s m args below meth c H' locs' N q h0 hC0 hls g1 g2 (by simpa using hlen) (fun hb => by cases hb)
            simpa using K
          · cases h5
      · rename_i idx j' tl
        obtain ⟨N', hN', h3⟩ := Option.bind_eq_some_iff.mp h2
        split at h3
        · rename_i hx
          match tl, hev with
          | w :: ne :: ci :: tl, hev => exact zstat_ok hl ih hC0 hls hR hL hlen hcl (zdec1 hd rfl) hev hN' hx.2 h3
          | [], hev => cases hev
          | [_], hev => cases hev
          | [_, _], hev => cases hev
        · cases h3
      · rename_i idx j' w ne ci tl
        exact zobj_ok hl ih hC0 hls hR hL hlen hcl (Or.inl ⟨rfl, rfl⟩) (zdec1 hd rfl) hev h2
      · rename_i idx j' w ne ci tl
        exact zobj_ok hl ih hC0 hls hR hL hlen hcl (Or.inr ⟨rfl, rfl⟩) (zdec1 hd rfl) hev h2
      · cases h2
end ZS3
