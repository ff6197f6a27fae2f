/-! the law reads a text: both sides -/
section READ
variable {isv te re de : Int32} {now sna : SV} {len : Int32} {sig : Nat → Int32} {nxt cnt : Int32} {rng : Nat → SV} {kept rea det misv iit mlen merr : Int32} {mnow msav : Nat → Int32} {hst : Nat → Nat → Int32} {inp : Nat → Int32}
theorem S_read (G : GG isv te re de now sna len sig nxt cnt rng kept rea det misv iit mlen merr mnow msav hst inp) (spa : SV) (out : Nat → Int64) (thr at_ wro cmd to1 to2 : Int32) (bef : Nat → Int32) (noi : Nat → UInt32) : ∃ k te' re' de' now' spa' len' nxt' cnt' rng' out' b kept' iit' mlen' at' wro' cmd' to1' to2' mnow' bef' hst' noi', f_L_read te re de now spa len sig nxt cnt rng out = some (k, te', re', de', now', spa', len', nxt', cnt', rng', out') ∧ f_X5_read thr kept rea det iit mlen at_ merr wro cmd to1 to2 mnow bef hst noi inp = some (b, k, kept', re', de', iit', mlen', at', te', wro', cmd', to1', to2', mnow', bef', hst', noi') ∧ (k = 0 → out' 0 = b.toInt64) ∧ GG isv te' re' de' now' sna len' sig nxt' cnt' rng' kept' re' de' misv iit' mlen' te' mnow' msav hst' inp := by
  obtain ⟨hisv, rfl, rfl, rfl, rfl, hRE, hsv, ⟨L, hL, rfl, rfl, hs⟩, hH⟩ := G
  obtain ⟨res, k1, k2⟩ := copy_eq spa now
  obtain ⟨r0, t0, t1⟩ := text_eq hL hs (L + 1) 0 cmd to1 to2 1 4096 (by omega) (by omega) (by omega)
  have t0 : f_X5_readOrder (nI L) 0 0 cmd to1 to2 inp = some r0 := t0
  have hin : ∃ L', L' ≤ 60 ∧ (0 : Int32) = nI L' ∧ (0 : Int32) = nI L' ∧ ∀ i, i < L' → sig i = inp i ∧ isC (sig i) = true := ⟨0, by omega, rfl, rfl, fun i hi => by omega⟩
  rcases t1 with ⟨e, cm, x1, x2, many, he, c1, c2⟩ | ⟨k, cm, x1, x2, hk, hT, c1, c2, -⟩
  · -- an error in the text
    have hfe : f_X2_findError (nI L) sig = some (nI e) := c2 4096 (by omega)
    have c1 : f_X5_countOrders_c16 (nI L) inp 4096 1 r0.1 r0.2.1 r0.2.2.1 r0.2.2.2.1 r0.2.2.2.2 = some (many, nI e, 1, cm, x1, x2) := c1
    obtain ⟨res2, g1, g2⟩ := copy_eq now (sv_cp spa res)
    have hag : ag (sv_cp now res2) now := by
      obtain ⟨a0, a1, a2, a3, a4, aa⟩ := g2
      obtain ⟨b0, b1, b2, b3, b4, bb⟩ := k2
      refine ⟨a0.trans b0, a1.trans b1, a2.trans b2, a3.trans b3, a4.trans b4, fun i hi => ?_⟩
      have ai := aa i hi
      have bi := bb i hi
      exact ⟨ai.1.trans bi.1, ai.2.1.trans bi.2.1, ai.2.2.1.trans bi.2.2.1, ai.2.2.2.1.trans bi.2.2.2.1, ai.2.2.2.2.1.trans bi.2.2.2.2.1, ai.2.2.2.2.2.1.trans bi.2.2.2.2.2.1, ai.2.2.2.2.2.2.1.trans bi.2.2.2.2.2.2.1, ai.2.2.2.2.2.2.2.1.trans bi.2.2.2.2.2.2.2.1, ai.2.2.2.2.2.2.2.2.1.trans bi.2.2.2.2.2.2.2.2.1, ai.2.2.2.2.2.2.2.2.2.1.trans bi.2.2.2.2.2.2.2.2.2.1, ai.2.2.2.2.2.2.2.2.2.2.1.trans bi.2.2.2.2.2.2.2.2.2.2.1, ai.2.2.2.2.2.2.2.2.2.2.2.trans bi.2.2.2.2.2.2.2.2.2.2.2⟩
    refine ⟨1, nI e, re, de, sv_cp now res2, sv_cp spa res, 0, nxt, cnt, rng, out, 0, kept, 0, 0, nI e, 1, cm, x1, x2, mnow, bef, hst, noi, ?_, ?_, fun q => absurd q (by decide), hisv, rfl, rfl, rfl, rfl, RE_ag hRE hag (rowAg_rf _), hsv, hin, hH⟩
    · have hm : ¬ nI e = (-1 : Int32) := nI_ne_m1 (by omega)
      have h4 : f_X4_read te re de now spa (nI L) sig nxt cnt rng = some (.inl (2, nI e, re, de, sv_cp now res2, sv_cp spa res, 0, nxt, cnt, rng)) := by
        unfold f_X4_read
        rw [hfe, ob_s, k1, ob_s, if_neg hm]
        unfold f_X4_read_c39
        rw [if_pos (by decide), g1, ob_s, if_neg (by decide)]
      unfold f_L_read
      rw [h4, ob_s, os_ln]
      rw [if_pos rfl]
    · unfold f_X5_read f_X5_countOrders
      rw [t0, ob_s, c1, ob_s, if_neg n10]
      unfold f_X5_read_c21
      rw [if_neg n10]
  · -- orders
    have hfe : f_X2_findError (nI L) sig = some (-1) := c2 4096 (by omega)
    have c1 : f_X5_countOrders_c16 (nI L) inp 4096 1 r0.1 r0.2.1 r0.2.2.1 r0.2.2.2.1 r0.2.2.2.2 = some (nI (k + 1), nI L, 0, cm, x1, x2) := by
      rw [show k + 1 = 1 + k by omega]; exact c1
    obtain ⟨bef2, z1, z2⟩ := copyRow mnow bef
    obtain ⟨re', de', x', r', noi', cm', y1, y2, at', x3', o0, p1, p2⟩ := run_eq hL hs (M := k + 1) (by omega) bef2 hst (-1) kept k 0 0 re de now mnow noi cm x1 x2 0 thr 4096 4096 (by omega) hT hRE (by omega) (by omega)
    have p1 : f_X4_carryOut re de now (nI L) sig = some (o0, re', de', x') := p1
    have hmod : f_X5_read thr kept re de 0 (nI L) at_ te wro cmd to1 to2 mnow bef hst noi inp = f_X5_read_c71 inp 4096 (nI (k + 1)) 1 0 0 thr kept re de 1 (nI L) 0 (-1) 0 cm x1 x2 mnow bef2 hst noi := by
      unfold f_X5_read f_X5_countOrders
      rw [t0, ob_s, c1, ob_s, if_pos rfl]
      unfold f_X5_read_c21
      rw [if_pos rfl, z1, ob_s]
    have hREs : RE (sv_cp spa res) bef2 := RE_ag hRE k2 z2
    rcases p2 with ⟨rfl, hR', p2⟩ | ⟨hd, t, rfl, hx3, p2⟩
    · -- all carried out
      obtain ⟨nxt', cnt', rng', kept', hst', k4, k5, k6⟩ := remember_bef bef2 hH hREs
      have p2 : f_X5_read_c71 inp 4096 (nI (k + 1)) 1 0 0 thr kept re de 1 (nI L) 0 (-1) 0 cm x1 x2 mnow bef2 hst noi = _ := p2
      refine ⟨0, -1, re', de', x', sv_cp spa res, 0, nxt', cnt', rng', vp_updL out 0 (nI (k + 1)).toInt64, nI (k + 1), kept', 0, 0, at', 0, cm', y1, y2, r', bef2, hst', noi', ?_, ?_, fun _ => updL0 _ _, hisv, rfl, rfl, rfl, rfl, hR', hsv, hin, k6⟩
      · have h4 : f_X4_read te re de now spa (nI L) sig nxt cnt rng = some (.inr (nI (k + 1), -1, re', de', x', sv_cp spa res, 0, nxt', cnt', rng')) := by
          unfold f_X4_read
          rw [hfe, ob_s, k1, ob_s, if_pos rfl, p1, ob_s]
          unfold f_X4_read_c39
          rw [if_neg (nI_pos (by omega)), k4, ob_s]
        unfold f_L_read
        rw [h4, ob_s, os_rn]
        rfl
      · rw [hmod, p2]
        unfold f_X5_read_c135
        rw [if_neg n10, k5, ob_s]
    · -- refused, or out of range
      have p2 : f_X5_read_c71 inp 4096 (nI (k + 1)) 1 0 0 thr kept re de 1 (nI L) 0 (-1) 0 cm x1 x2 mnow bef2 hst noi = _ := p2
      obtain ⟨res2, g1, g2⟩ := copy_eq x' (sv_cp spa res)
      obtain ⟨rr, u1, u2⟩ := copyRow bef2 r'
      have hREn : RE (sv_cp x' res2) rr := RE_ag hREs g2 u2
      rcases hx3 with ⟨rfl, rfl⟩ | ⟨hd', rfl⟩
      · refine ⟨2, -1, re', de', sv_cp x' res2, sv_cp spa res, 0, nxt, cnt, rng, out, 0, kept, 0, 0, at', 0, cm', y1, y2, rr, bef2, hst, noi', ?_, ?_, fun q => absurd q (by decide), hisv, rfl, rfl, rfl, rfl, hREn, hsv, hin, hH⟩
        · have h4 : f_X4_read te re de now spa (nI L) sig nxt cnt rng = some (.inl (3, -1, re', de', sv_cp x' res2, sv_cp spa res, 0, nxt, cnt, rng)) := by
            unfold f_X4_read
            rw [hfe, ob_s, k1, ob_s, if_pos rfl, p1, ob_s]
            unfold f_X4_read_c39
            dsimp only
            rw [if_pos (show -(3 : Int32) < 0 by decide), g1, ob_s, if_pos (show -(3 : Int32) = -3 by decide)]
          unfold f_L_read
          rw [h4, ob_s, os_ln]
          dsimp only
          rw [if_neg (show ¬ (3 : Nat) = 2 by decide), if_pos rfl]
        · rw [hmod, p2]
          unfold f_X5_read_c135
          rw [if_pos rfl, u1, ob_s, if_neg n10]
      · refine ⟨1, -1, re', de', sv_cp x' res2, sv_cp spa res, 0, nxt, cnt, rng, out, 0, kept, 0, 0, at', 0, cm', y1, y2, rr, bef2, hst, noi', ?_, ?_, fun q => absurd q (by decide), hisv, rfl, rfl, rfl, rfl, hREn, hsv, hin, hH⟩
        · have h4 : f_X4_read te re de now spa (nI L) sig nxt cnt rng = some (.inl (2, -1, re', de', sv_cp x' res2, sv_cp spa res, 0, nxt, cnt, rng)) := by
            unfold f_X4_read
            rw [hfe, ob_s, k1, ob_s, if_pos rfl, p1, ob_s]
            have hlt : -hd < 0 := by rcases hd' with rfl | rfl <;> decide
            have hne : ¬ -hd = -3 := by rcases hd' with rfl | rfl <;> decide
            unfold f_X4_read_c39
            dsimp only
            rw [if_pos hlt, g1, ob_s, if_neg hne]
          unfold f_L_read
          rw [h4, ob_s, os_ln]
          rw [if_pos rfl]
        · rw [hmod, p2]
          unfold f_X5_read_c135
          rw [if_pos rfl, u1, ob_s, if_pos rfl]
end READ
