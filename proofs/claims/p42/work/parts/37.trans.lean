/-! what a change makes of it -/
section TR
variable {B : Nat → Nat} {crowd bus ans : Int32} {lim : Nat → UInt32} {cmp sof kin lou pit pla cas hrs nws : Nat → Int32} {hat wea : Nat → UInt32} {n w : Nat} {ln : Nat → Nat}
theorem T_B (h : Jv B crowd bus ans lim cmp sof kin lou pit pla cas hrs nws hat wea n w ln) {B' : Nat → Nat} (hB : ∀ k, k < 8 → B k ≤ B' k) : Jv B' crowd bus ans lim cmp sof kin lou pit pla cas hrs nws hat wea n w ln := by
  obtain ⟨hA, hc, hL, hO, hS, hK, hF, hI, hJ, hG, hGj, hE, hN, hD, hY, hZ⟩ := h
  exact ⟨hA, hc, hL, qO_mono hO hB, hS, hK, hF, hI, hJ, hG, hGj, hE, hN, hD, hY, hZ⟩
theorem T_crowd (h : Jv B crowd bus ans lim cmp sof kin lou pit pla cas hrs nws hat wea n w ln) {c : Nat} (hc9 : c ≤ 50) : Jv B (nI c) bus ans lim cmp sof kin lou pit pla cas hrs nws hat wea n w ln := by
  obtain ⟨hA, hc, hL, hO, hS, hK, hF, hI, hJ, hG, hGj, hE, hN, hD, hY, hZ⟩ := h
  exact ⟨hA, ⟨c, hc9, rfl⟩, hL, hO, hS, hK, hF, hI, hJ, hG, hGj, hE, hN, hD, hY, hZ⟩
theorem T_limit (h : Jv B crowd bus ans lim cmp sof kin lou pit pla cas hrs nws hat wea n w ln) {k : Nat} (hk : k < 8) {x : UInt32} (hx : x.toNat ≤ 1123024896) : Jv B crowd bus ans (vf_upd lim k x) cmp sof kin lou pit pla cas hrs nws hat wea n w ln := by
  obtain ⟨hA, hc, hL, hO, hS, hK, hF, hI, hJ, hG, hGj, hE, hN, hD, hY, hZ⟩ := h
  refine ⟨hA, hc, fun k2 hk2 => ?_, hO, hS, hK, hF, hI, hJ, hG, hGj, hE, hN, hD, hY, zF_upd hZ.1 hk x, hZ.2⟩
  by_cases e : k2 = k
  · rw [e, vupd_eq]; exact hx
  · rw [vupd_ne _ _ e]; exact hL k2 hk2
theorem T_busker (h : Jv B crowd bus ans lim cmp sof kin lou pit pla cas hrs nws hat wea n w ln) (hn : n < 8) {a : Int32} (ha : a = 0 ∨ a = 1) {l : Nat} (hl1 : 1 ≤ l) (hl2 : l ≤ 9) : Jv B crowd (nI (n + 1)) ans lim cmp sof (upd kin n a) (upd lou n (nI l)) pit pla cas hrs nws hat wea (n + 1) w ln := by
  obtain ⟨hA, hc, hL, hO, hS, hK, hF, hI, hJ, hG, hGj, hE, hN, hD, hY, hZ⟩ := h
  obtain ⟨e1, e2, e3, e4, e5, e6, e7⟩ := hE n (Nat.le_refl n) hn
  refine ⟨⟨rfl, by omega⟩, hc, hL, hO, hS, fun b hb => ?_, hF, hI, hJ, hG, fun b b' hb hb' q1 q2 q3 => ?_, fun b hb hb8 => hE b (by omega) hb8, ⟨fun j hj => ⟨by have := (hN.1 j hj).1; omega, (hN.1 j hj).2⟩, hN.2⟩, hD, fun b hb => ⟨(hY b hb).1, fun q => ?_⟩, hZ.1, hZ.2.1, hZ.2.2.1, zI_upd hZ.2.2.2.1 hn a, zI_upd hZ.2.2.2.2.1 hn _, hZ.2.2.2.2.2⟩
  · by_cases e : b = n
    · subst e
      rw [upd_eq, upd_eq]
      exact ⟨ha, l, hl1, hl2, rfl⟩
    · rw [upd_ne _ _ e, upd_ne _ _ e]
      exact hK b (by omega)
  · have n1 : b ≠ n := fun e => by rw [e, e3] at q3; exact q3 rfl
    have n2 : b' ≠ n := fun e => by rw [q1, e, e3] at q3; exact q3 rfl
    rw [upd_ne _ _ n1, upd_ne _ _ n2] at q2
    exact hGj b b' hb hb' q1 q2 q3
  · by_cases e : b = n
    · rw [e]; exact e7
    · rw [upd_ne _ _ e] at q; exact (hY b hb).2 q
theorem T_room (h : Jv B crowd bus ans lim cmp sof kin lou pit pla cas hrs nws hat wea n w ln) {b : Nat} (hb : b < 8) (hp : pla b = -1) : w < 8 := by
  obtain ⟨hA, hc, hL, hO, hS, hK, hF, hI, hJ, hG, hGj, hE, hN, hD, hY, hZ⟩ := h
  have h1 := cn_upd (p := fun i => decide (¬ pla i = -1)) (q := fun i => decide (¬ upd pla b 0 i = -1)) (k := b) (m := 8) hb (fun i hi e => by simp only [upd_ne pla 0 e])
  have h2 := cn_le (fun i => decide (¬ upd pla b 0 i = -1)) 8
  have h1 : cn (fun i => decide (¬ upd pla b 0 i = -1)) 8 + (decide (¬ pla b = -1)).toNat = cn (fun i => decide (¬ pla i = -1)) 8 + (decide (¬ upd pla b 0 b = -1)).toNat := h1
  rw [hN.2.2, upd_eq, hp] at h1
  have h3 : (decide (¬ (-1 : Int32) = -1)).toNat = 0 := rfl
  have h4 : (decide (¬ (0 : Int32) = -1)).toNat = 1 := rfl
  omega
theorem T_join (h : Jv B crowd bus ans lim cmp sof kin lou pit pla cas hrs nws hat wea n w ln) {b : Nat} (hb : b < n) (hp : pla b = -1) (hq : pit b = -1) (hw9 : (wea b).toNat < 1065353216) : Jv B crowd bus ans lim cmp sof kin lou pit (upd pla b (nI w)) cas hrs nws hat wea n (w + 1) (fun j => if j = w then b else ln j) := by
  have hn8 := h.1.2
  have hw8 := T_room h (b := b) (by omega) hp
  obtain ⟨hA, hc, hL, hO, hS, hK, hF, hI, hJ, hG, hGj, hE, hN, hD, hY, hZ⟩ := h
  refine ⟨hA, hc, hL, hO, hS, hK, hF, hI, hJ, hG, hGj, fun b' h1 h2 => ?_, ⟨fun j hj => ?_, fun b' hb' => ?_, ?_⟩, fun b' hb' hq' => ?_, fun b' hb' => ⟨fun q => ?_, (hY b' hb').2⟩, hZ.1, hZ.2.1, hZ.2.2.1, hZ.2.2.2.1, hZ.2.2.2.2.1, hZ.2.2.2.2.2.1, zI_upd hZ.2.2.2.2.2.2.1 (by omega) _, hZ.2.2.2.2.2.2.2⟩
  · rw [upd_ne _ _ (by omega)]; exact hE b' h1 h2
  · by_cases e : j = w
    · subst e
      dsimp only
      rw [if_pos rfl, upd_eq]
      exact ⟨hb, rfl⟩
    · obtain ⟨q1, q3⟩ := hN.1 j (by omega)
      dsimp only
      rw [if_neg e, upd_ne _ _ (fun e2 => by
        rw [e2, hp] at q3
        exact nI_ne_m1 (by omega) q3.symm)]
      exact ⟨q1, q3⟩
  · by_cases e : b' = b
    · subst e
      exact Or.inr ⟨w, by omega, upd_eq _ _ _, if_pos rfl⟩
    · rw [upd_ne _ _ e]
      rcases hN.2.1 b' hb' with q | ⟨j, q1, q2, q3⟩
      · exact Or.inl q
      · exact Or.inr ⟨j, by omega, q2, by dsimp only; rw [if_neg (by omega)]; exact q3⟩
  · have h1 := cn_upd (p := fun i => decide (¬ pla i = -1)) (q := fun i => decide (¬ upd pla b (nI w) i = -1)) (k := b) (m := 8) (by omega) (fun i hi e => by simp only [upd_ne pla _ e])
    have h1 : cn (fun i => decide (¬ upd pla b (nI w) i = -1)) 8 + (decide (¬ pla b = -1)).toNat = cn (fun i => decide (¬ pla i = -1)) 8 + (decide (¬ upd pla b (nI w) b = -1)).toNat := h1
    rw [hN.2.2, upd_eq, hp] at h1
    have h3 : (decide (¬ (-1 : Int32) = -1)).toNat = 0 := rfl
    have h4 : (decide (¬ nI w = -1)).toNat = 1 := by rw [decide_eq_true (nI_ne_m1 (by omega))]; rfl
    omega
  · rw [upd_ne _ _ (fun e => by rw [e] at hq'; exact hq' hq)]
    exact hD b' hb' hq'
  · by_cases e : b' = b
    · rw [e]; exact hw9
    · rw [upd_ne _ _ e] at q; exact (hY b' hb').1 q
theorem T_home (h : Jv B crowd bus ans lim cmp sof kin lou pit pla cas hrs nws hat wea n w ln) {b : Nat} (hb : b < 8) : Jv B crowd bus ans lim cmp sof kin lou (upd pit b (-1)) pla cas hrs nws hat wea n w ln := by
  obtain ⟨hA, hc, hL, hO, hS, hK, hF, hI, hJ, hG, hGj, hE, hN, hD, hY, hZ⟩ := h
  have hu : ∀ b', upd pit b (-1) b' ≠ -1 → b' ≠ b ∧ upd pit b (-1) b' = pit b' := fun b' q => by
    by_cases e : b' = b
    · rw [e, upd_eq] at q; exact absurd rfl q
    · exact ⟨e, upd_ne _ _ e⟩
  refine ⟨hA, hc, hL, hO, hS, hK, hF, fun b' hb' => ?_, fun b1 b2 h1 h2 q1 q2 => ?_, hG, hGj, fun b' h1 h2 => ?_, hN, fun b' hb' hq' => ?_, fun b' hb' => ⟨fun q => (hY b' hb').1 ?_, (hY b' hb').2⟩, hZ.1, hZ.2.1, hZ.2.2.1, hZ.2.2.2.1, hZ.2.2.2.2.1, zI_upd hZ.2.2.2.2.2.1 hb _, hZ.2.2.2.2.2.2⟩
  · by_cases e : b' = b
    · rw [e, upd_eq]; exact Or.inl rfl
    · rw [upd_ne _ _ e]; exact hI b' hb'
  · obtain ⟨n1, e1⟩ := hu b1 q2
    obtain ⟨n2, e2⟩ := hu b2 (by rw [← q1]; exact q2)
    rw [e1, e2] at q1
    rw [e1] at q2
    exact hJ b1 b2 h1 h2 q1 q2
  · by_cases e : b' = b
    · rw [e, upd_eq]; rw [e] at h1; exact ⟨rfl, (hE b h1 hb).2⟩
    · rw [upd_ne _ _ e]; exact hE b' h1 h2
  · obtain ⟨n1, e1⟩ := hu b' hq'
    rw [e1] at hq'
    exact hD b' hb' hq'
  · rcases q with q | q
    · obtain ⟨n1, e1⟩ := hu b' q
      rw [e1] at q
      exact Or.inl q
    · exact Or.inr q
theorem T_swap (h : Jv B crowd bus ans lim cmp sof kin lou pit pla cas hrs nws hat wea n w ln) {k1 k2 b1 b2 : Nat} (hk1 : k1 < 8) (hk2 : k2 < 8) (hb1 : b1 < 8) (hb2 : b2 < 8) (hp1 : pit b1 = nI k1) (hp2 : pit b2 = nI k2) : Jv B crowd bus ans lim cmp sof kin lou (upd (upd pit b1 (nI k2)) b2 (nI k1)) pla cas hrs nws hat wea n w ln := by
  obtain ⟨hA, hc, hL, hO, hS, hK, hF, hI, hJ, hG, hGj, hE, hN, hD, hY, hZ⟩ := h
  have hkb : k1 = k2 ↔ b1 = b2 := by
    constructor
    · intro e
      subst e
      exact hJ b1 b2 hb1 hb2 (hp1.trans hp2.symm) (by rw [hp1]; exact nI_ne_m1 (by omega))
    · intro e
      subst e
      exact (nI_eq (by omega) (by omega)).mp (hp1.symm.trans hp2)
  have hpit : ∀ b, upd (upd pit b1 (nI k2)) b2 (nI k1) b = if b = b1 then nI k2 else if b = b2 then nI k1 else pit b := by
    intro b
    by_cases e1 : b = b1
    · rw [if_pos e1]
      by_cases e2 : b = b2
      · have : k1 = k2 := hkb.mpr (by omega)
        rw [e2, upd_eq, this]
      · rw [upd_ne _ _ e2, e1, upd_eq]
    · rw [if_neg e1]
      by_cases e2 : b = b2
      · rw [if_pos e2, e2, upd_eq]
      · rw [if_neg e2, upd_ne _ _ e2, upd_ne _ _ e1]
  have m1 : ¬ nI k1 = -1 := nI_ne_m1 (by omega)
  have m2 : ¬ nI k2 = -1 := nI_ne_m1 (by omega)
  have hne : ∀ b, b < 8 → upd (upd pit b1 (nI k2)) b2 (nI k1) b ≠ -1 → pit b ≠ -1 := by
    intro b hb q
    rw [hpit] at q
    by_cases e1 : b = b1
    · rw [e1, hp1]; exact m1
    · rw [if_neg e1] at q
      by_cases e2 : b = b2
      · rw [e2, hp2]; exact m2
      · rw [if_neg e2] at q; exact q
  refine ⟨hA, hc, hL, hO, hS, hK, hF, fun b' hb' => ?_, fun c1 c2 h1 h2 q1 q2 => ?_, hG, hGj, fun b' h1 h2 => ?_, hN, fun b' hb' hq' => hD b' hb' (hne b' hb' hq'), fun b' hb' => ⟨fun q => (hY b' hb').1 ?_, (hY b' hb').2⟩, hZ.1, hZ.2.1, hZ.2.2.1, hZ.2.2.2.1, hZ.2.2.2.2.1, zI_upd (zI_upd hZ.2.2.2.2.2.1 hb1 _) hb2 _, hZ.2.2.2.2.2.2⟩
  · rw [hpit]
    split
    · exact Or.inr ⟨k2, hk2, rfl⟩
    · split
      · exact Or.inr ⟨k1, hk1, rfl⟩
      · exact hI b' hb'
  · have key : ∀ b, b < 8 → ∃ b0, b0 < 8 ∧ upd (upd pit b1 (nI k2)) b2 (nI k1) b = pit b0 ∧ (b0 = if b = b1 then b2 else if b = b2 then b1 else b) := by
      intro b hb
      rw [hpit]
      by_cases e1 : b = b1
      · exact ⟨b2, hb2, by rw [if_pos e1, hp2], by rw [if_pos e1]⟩
      · by_cases e2 : b = b2
        · exact ⟨b1, hb1, by rw [if_neg e1, if_pos e2, hp1], by rw [if_neg e1, if_pos e2]⟩
        · exact ⟨b, hb, by rw [if_neg e1, if_neg e2], by rw [if_neg e1, if_neg e2]⟩
    obtain ⟨d1, g1, g2, g3⟩ := key c1 h1
    obtain ⟨d2, f1, f2, f3⟩ := key c2 h2
    rw [g2, f2] at q1
    rw [g2] at q2
    have := hJ d1 d2 g1 f1 q1 q2
    rw [g3, f3] at this
    split at this <;> split at this <;> (try split at this) <;> (try split at this) <;> omega
  · rw [hpit, if_neg (fun e => by rw [e] at h1; exact m1 (hp1.symm.trans (hE b1 h1 hb1).1)), if_neg (fun e => by rw [e] at h1; exact m2 (hp2.symm.trans (hE b2 h1 hb2).1))]; exact hE b' h1 h2
  · rcases q with q | q
    · exact Or.inl (hne b' hb' q)
    · exact Or.inr q
theorem T_draw (h : Jv B crowd bus ans lim cmp sof kin lou pit pla cas hrs nws hat wea n w ln) {j k : Nat} (hj : j < w) (hk : k < 8) (hfree : ∀ b, b < 8 → pit b ≠ nI k) {pla1 : Nat → Int32} (hpl : ∀ b, b < 8 → pla1 b = if pla b ≤ nI j then pla b else pla b - 1) (hz1 : zI pla1) : Jv B crowd bus ans lim cmp sof kin lou (upd pit (ln j) (nI k)) (upd pla1 (ln j) (-1)) cas hrs nws hat wea n (w - 1) (fun i => if i < j then ln i else ln (i + 1)) := by
  obtain ⟨hA, hc, hL, hO, hS, hK, hF, hI, hJ, hG, hGj, hE, hN, hD, hY, hZ⟩ := h
  have hn8 := hA.2
  have hw8 := qN_le hN
  obtain ⟨hb, hpj⟩ := hN.1 j hj
  have hpm : ∀ b, b < 8 → pla b = -1 → pla1 b = -1 := by
    intro b hb e
    rw [hpl b hb, e, if_pos (by
      rw [Int32.le_iff_toInt_le, nI_toInt (by omega)]
      have : (-1 : Int32).toInt = -1 := by decide
      omega)]
  have hpi : ∀ i, i < w → pla1 (ln i) = if i ≤ j then nI i else nI (i - 1) := by
    intro i hi
    obtain ⟨q1, q3⟩ := hN.1 i hi
    rw [hpl _ (by omega), q3]
    by_cases e : i ≤ j
    · rw [if_pos (nI_le e (by omega)), if_pos e]
    · rw [if_neg (nI_ge (by omega) (by omega)), if_neg e]
      exact pk_sub (a := i) (b := 1) (by omega)
  have hinj : ∀ i i', i < w → i' < w → ln i = ln i' → i = i' := by
    intro i i' hi hi' e
    have q := (hN.1 i hi).2
    rw [e, (hN.1 i' hi').2] at q
    exact ((nI_eq (by omega) (by omega)).mp q).symm
  have hbp : pit (ln j) = -1 := by
    rcases hI (ln j) (by omega) with q | ⟨k', hk', q⟩
    · exact q
    · have := hD (ln j) (by omega) (by rw [q]; exact nI_ne_m1 (by omega))
      rw [hpj] at this
      exact absurd this (nI_ne_m1 (by omega))
  have hkm : ¬ nI k = -1 := nI_ne_m1 (by omega)
  have hpn : ∀ b, b < 8 → b ≠ ln j → upd pla1 (ln j) (-1) b ≠ -1 → pla b ≠ -1 := fun b hb e q q2 => q (by rw [upd_ne _ _ e]; exact hpm b hb q2)
  refine ⟨hA, hc, hL, hO, hS, hK, hF, fun b' hb' => ?_, fun c1 c2 h1 h2 q1 q2 => ?_, hG, hGj, fun b' h1 h2 => ?_, ⟨fun i hi => ?_, fun b' hb' => ?_, ?_⟩, fun b' hb' hq' => ?_, fun b' hb' => ⟨fun q => (hY b' hb').1 ?_, (hY b' hb').2⟩, hZ.1, hZ.2.1, hZ.2.2.1, hZ.2.2.2.1, hZ.2.2.2.2.1, zI_upd hZ.2.2.2.2.2.1 (by omega) _, zI_upd hz1 (by omega) _, hZ.2.2.2.2.2.2.2⟩
  · by_cases e : b' = ln j
    · rw [e, upd_eq]; exact Or.inr ⟨k, hk, rfl⟩
    · rw [upd_ne _ _ e]; exact hI b' hb'
  · by_cases e1 : c1 = ln j
    · by_cases e2 : c2 = ln j
      · rw [e1, e2]
      · rw [e1, upd_eq, upd_ne _ _ e2] at q1
        exact absurd q1.symm (hfree c2 h2)
    · by_cases e2 : c2 = ln j
      · rw [e2, upd_eq, upd_ne _ _ e1] at q1
        exact absurd q1 (hfree c1 h1)
      · rw [upd_ne _ _ e1, upd_ne _ _ e2] at q1
        rw [upd_ne _ _ e1] at q2
        exact hJ c1 c2 h1 h2 q1 q2
  · obtain ⟨e1, e2, e3⟩ := hE b' h1 h2
    rw [upd_ne _ _ (by omega), upd_ne _ _ (by omega)]
    exact ⟨e1, hpm b' h2 e2, e3⟩
  · by_cases e : i < j
    · obtain ⟨q1, q3⟩ := hN.1 i (by omega)
      simp only [if_pos e]
      refine ⟨q1, ?_⟩
      rw [upd_ne _ _ (fun e2 => by have := hinj i j (by omega) hj e2; omega), hpi i (by omega), if_pos (by omega)]
    · obtain ⟨q1, q3⟩ := hN.1 (i + 1) (by omega)
      simp only [if_neg e]
      refine ⟨q1, ?_⟩
      rw [upd_ne _ _ (fun e2 => by have := hinj (i + 1) j (by omega) hj e2; omega), hpi (i + 1) (by omega), if_neg (by omega)]
      rfl
  · by_cases e : b' = ln j
    · rw [e, upd_eq]; exact Or.inl rfl
    · rw [upd_ne _ _ e]
      rcases hN.2.1 b' hb' with q | ⟨i, q1, q2, q3⟩
      · exact Or.inl (hpm b' hb' q)
      · right
        have hij : i ≠ j := fun e2 => e (by rw [← q3, e2])
        rw [← q3, hpi i q1]
        by_cases e2 : i < j
        · exact ⟨i, by omega, by rw [if_pos (by omega)], by simp only [if_pos e2]⟩
        · refine ⟨i - 1, by omega, by rw [if_neg (by omega)], ?_⟩
          simp only [if_neg (show ¬ i - 1 < j by omega)]
          rw [show i - 1 + 1 = i by omega]
  · have h1 := cn_upd (p := fun i => decide (¬ pla i = -1)) (q := fun i => decide (¬ upd pla1 (ln j) (-1) i = -1)) (k := ln j) (m := 8) (by omega) (fun i hi e => by
      show decide (¬ upd pla1 (ln j) (-1) i = -1) = decide (¬ pla i = -1)
      rw [upd_ne _ _ e]
      rcases hN.2.1 i hi with q | ⟨i2, q1, q2, q3⟩
      · rw [q, hpm i hi q]
      · rw [decide_eq_true (show ¬ pla i = -1 by rw [q2]; exact nI_ne_m1 (by omega)), ← q3, hpi i2 q1]
        split
        · exact decide_eq_true (nI_ne_m1 (by omega))
        · exact decide_eq_true (nI_ne_m1 (by omega)))
    have h1 : cn (fun i => decide (¬ upd pla1 (ln j) (-1) i = -1)) 8 + (decide (¬ pla (ln j) = -1)).toNat = cn (fun i => decide (¬ pla i = -1)) 8 + (decide (¬ upd pla1 (ln j) (-1) (ln j) = -1)).toNat := h1
    rw [hN.2.2, upd_eq, hpj] at h1
    have g3 : (decide (¬ (-1 : Int32) = -1)).toNat = 0 := rfl
    have g4 : (decide (¬ nI j = -1)).toNat = 1 := by rw [decide_eq_true (nI_ne_m1 (by omega))]; rfl
    omega
  · by_cases e : b' = ln j
    · rw [e, upd_eq]
    · rw [upd_ne _ _ e] at hq' ⊢
      exact hpm b' hb' (hD b' hb' hq')
  · by_cases e : b' = ln j
    · right; rw [e, hpj]; exact nI_ne_m1 (by omega)
    · rcases q with q | q
      · rw [upd_ne _ _ e] at q; exact Or.inl q
      · exact Or.inr (hpn b' hb' e q)
theorem T_strings (h : Jv B crowd bus ans lim cmp sof kin lou pit pla cas hrs nws hat wea n w ln) {b : Nat} (hb : b < n) {x : UInt32} (hx : x.toNat ≤ 1317011456) (v : Int32) : Jv B crowd bus ans lim cmp sof kin lou pit pla cas hrs (upd nws b v) (vf_upd hat b x) (vf_upd wea b 0) n w ln := by
  obtain ⟨hA, hc, hL, hO, hS, hK, hF, hI, hJ, hG, hGj, hE, hN, hD, hY, hZ⟩ := h
  have hn8 := hA.2
  refine ⟨hA, hc, hL, hO, hS, hK, fun b' hb' => ?_, hI, hJ, hG, hGj, fun b' h1 h2 => ?_, hN, hD, fun b' hb' => ?_, hZ.1, hZ.2.1, hZ.2.2.1, hZ.2.2.2.1, hZ.2.2.2.2.1, hZ.2.2.2.2.2.1, hZ.2.2.2.2.2.2.1, hZ.2.2.2.2.2.2.2.1, hZ.2.2.2.2.2.2.2.2.1, zI_upd hZ.2.2.2.2.2.2.2.2.2.1 (by omega) _, zF_upd hZ.2.2.2.2.2.2.2.2.2.2.1 (by omega) _, zF_upd hZ.2.2.2.2.2.2.2.2.2.2.2 (by omega) _⟩
  · by_cases e : b' = b
    · rw [e, vupd_eq, vupd_eq]; exact ⟨hx, by decide⟩
    · rw [vupd_ne _ _ e, vupd_ne _ _ e]; exact hF b' hb'
  · rw [upd_ne _ _ (by omega), vupd_ne _ _ (by omega), vupd_ne _ _ (by omega)]; exact hE b' h1 h2
  · by_cases e : b' = b
    · rw [e, vupd_eq]; exact ⟨fun _ => by decide, fun _ => rfl⟩
    · rw [vupd_ne _ _ e]; exact hY b' hb'
theorem T_answer (h : Jv B crowd bus ans lim cmp sof kin lou pit pla cas hrs nws hat wea n w ln) {k : Nat} (hk : k < 8) : Jv B crowd bus (ans + cmp k) lim (upd cmp k 0) sof kin lou pit pla cas hrs nws hat wea n w ln := by
  obtain ⟨hA, hc, hL, hO, hS, hK, hF, hI, hJ, hG, hGj, hE, hN, hD, hY, hZ⟩ := h
  refine ⟨hA, hc, hL, fun k2 hk2 => ?_, ?_, hK, hF, hI, hJ, hG, hGj, hE, hN, hD, hY, hZ.1, zI_upd hZ.2.1 hk _, hZ.2.2⟩
  · obtain ⟨c, d, h1, h2, h3, h4, h5⟩ := hO k2 hk2
    by_cases e : k2 = k
    · exact ⟨0, d, by omega, by omega, h3, by rw [e, upd_eq]; rfl, h5⟩
    · exact ⟨c, d, h1, h2, h3, by rw [upd_ne _ _ e]; exact h4, h5⟩
  · rw [← hS, ← sI_0 (f := cmp) (m := 8) hk, Int32.add_comm ans, ← Int32.add_assoc]
theorem T_rack (h : Jv B crowd bus ans lim cmp sof kin lou pit pla cas hrs nws hat wea n w ln) {b p : Nat} (hb : b < n) (hp : p < 3) (hu : ∀ b', b' < 8 → ¬ (cas b' = nI p ∧ kin b' = kin b)) : Jv B crowd bus ans lim cmp sof kin lou pit pla (upd cas b (nI p)) hrs nws hat wea n w ln := by
  obtain ⟨hA, hc, hL, hO, hS, hK, hF, hI, hJ, hG, hGj, hE, hN, hD, hY, hZ⟩ := h
  have hn8 := hA.2
  refine ⟨hA, hc, hL, hO, hS, hK, hF, hI, hJ, fun b' hb' => ?_, fun c1 c2 h1 h2 q1 q2 q3 => ?_, fun b' h1 h2 => ?_, hN, hD, hY, hZ.1, hZ.2.1, hZ.2.2.1, hZ.2.2.2.1, hZ.2.2.2.2.1, hZ.2.2.2.2.2.1, hZ.2.2.2.2.2.2.1, zI_upd hZ.2.2.2.2.2.2.2.1 (by omega) _, hZ.2.2.2.2.2.2.2.2⟩
  · by_cases e : b' = b
    · rw [e, upd_eq]; exact Or.inr ⟨p, hp, rfl⟩
    · rw [upd_ne _ _ e]; exact hG b' hb'
  · by_cases e1 : c1 = b
    · by_cases e2 : c2 = b
      · rw [e1, e2]
      · rw [e1, upd_eq, upd_ne _ _ e2] at q1
        exact absurd ⟨q1.symm, by rw [← q2, e1]⟩ (hu c2 h2)
    · by_cases e2 : c2 = b
      · rw [e2, upd_eq, upd_ne _ _ e1] at q1
        exact absurd ⟨q1, by rw [q2, e2]⟩ (hu c1 h1)
      · rw [upd_ne _ _ e1, upd_ne _ _ e2] at q1
        rw [upd_ne _ _ e1] at q3
        exact hGj c1 c2 h1 h2 q1 q2 q3
  · rw [upd_ne _ _ (by omega)]; exact hE b' h1 h2
theorem T_unrack (h : Jv B crowd bus ans lim cmp sof kin lou pit pla cas hrs nws hat wea n w ln) {b : Nat} (hb : b < 8) : Jv B crowd bus ans lim cmp sof kin lou pit pla (upd cas b (-1)) hrs nws hat wea n w ln := by
  obtain ⟨hA, hc, hL, hO, hS, hK, hF, hI, hJ, hG, hGj, hE, hN, hD, hY, hZ⟩ := h
  have hu : ∀ b', upd cas b (-1) b' ≠ -1 → b' ≠ b ∧ upd cas b (-1) b' = cas b' := fun b' q => by
    by_cases e : b' = b
    · rw [e, upd_eq] at q; exact absurd rfl q
    · exact ⟨e, upd_ne _ _ e⟩
  refine ⟨hA, hc, hL, hO, hS, hK, hF, hI, hJ, fun b' hb' => ?_, fun c1 c2 h1 h2 q1 q2 q3 => ?_, fun b' h1 h2 => ?_, hN, hD, hY, hZ.1, hZ.2.1, hZ.2.2.1, hZ.2.2.2.1, hZ.2.2.2.2.1, hZ.2.2.2.2.2.1, hZ.2.2.2.2.2.2.1, zI_upd hZ.2.2.2.2.2.2.2.1 hb _, hZ.2.2.2.2.2.2.2.2⟩
  · by_cases e : b' = b
    · rw [e, upd_eq]; exact Or.inl rfl
    · rw [upd_ne _ _ e]; exact hG b' hb'
  · obtain ⟨n1, e1⟩ := hu c1 q3
    obtain ⟨n2, e2⟩ := hu c2 (by rw [← q1]; exact q3)
    rw [e1, e2] at q1
    rw [e1] at q3
    exact hGj c1 c2 h1 h2 q1 q2 q3
  · by_cases e : b' = b
    · rw [e, upd_eq]; rw [e] at h1; obtain ⟨a1, a2, a3, a4⟩ := hE b h1 hb; exact ⟨a1, a2, rfl, a4⟩
    · rw [upd_ne _ _ e]; exact hE b' h1 h2
theorem T_complain (h : Jv B crowd bus ans lim cmp sof kin lou pit pla cas hrs nws hat wea n w ln) {k c d : Nat} (hk : k < 8) (hc98 : c < 99) (e1 : cmp k = nI c) (e2 : sof k = nI d) (hcd : c ≤ d) {B' : Nat → Nat} (hd : d + 1 ≤ B' k) (hB : ∀ i, i < 8 → B i ≤ B' i) : Jv B' crowd bus ans lim (upd cmp k (nI c + 1)) (upd sof k (sof k + 1)) kin lou pit pla cas hrs nws hat wea n w ln := by
  obtain ⟨hA, hc, hL, hO, hS, hK, hF, hI, hJ, hG, hGj, hE, hN, hD, hY, hZ⟩ := h
  refine ⟨hA, hc, hL, fun k2 hk2 => ?_, ?_, hK, hF, hI, hJ, hG, hGj, hE, hN, hD, hY, hZ.1, zI_upd hZ.2.1 hk _, zI_upd hZ.2.2.1 hk _, hZ.2.2.2⟩
  · by_cases e : k2 = k
    · exact ⟨c + 1, d + 1, by omega, by omega, by rw [e]; exact hd, by rw [e, upd_eq, nI_1], by rw [e, upd_eq, e2, nI_1]⟩
    · obtain ⟨c', d', h1, h2, h3, h4, h5⟩ := hO k2 hk2
      exact ⟨c', d', h1, h2, Nat.le_trans h3 (hB k2 hk2), by rw [upd_ne _ _ e]; exact h4, by rw [upd_ne _ _ e]; exact h5⟩
  · rw [← e1, sI_1 hk, sI_1 hk, ← hS, Int32.add_assoc, Int32.add_comm 1, ← Int32.add_assoc]
theorem T_hat (h : Jv B crowd bus ans lim cmp sof kin lou pit pla cas hrs nws hat wea n w ln) {b : Nat} (hb : b < n) {x : UInt32} (hx : x.toNat ≤ 1317011456) : Jv B crowd bus ans lim cmp sof kin lou pit pla cas hrs nws (vf_upd hat b x) wea n w ln := by
  obtain ⟨hA, hc, hL, hO, hS, hK, hF, hI, hJ, hG, hGj, hE, hN, hD, hY, hZ⟩ := h
  have hn8 := hA.2
  refine ⟨hA, hc, hL, hO, hS, hK, fun b' hb' => ?_, hI, hJ, hG, hGj, fun b' h1 h2 => ?_, hN, hD, hY, hZ.1, hZ.2.1, hZ.2.2.1, hZ.2.2.2.1, hZ.2.2.2.2.1, hZ.2.2.2.2.2.1, hZ.2.2.2.2.2.2.1, hZ.2.2.2.2.2.2.2.1, hZ.2.2.2.2.2.2.2.2.1, hZ.2.2.2.2.2.2.2.2.2.1, zF_upd hZ.2.2.2.2.2.2.2.2.2.2.1 (by omega) _, hZ.2.2.2.2.2.2.2.2.2.2.2⟩
  · by_cases e : b' = b
    · rw [e, vupd_eq]; exact ⟨hx, (hF b (by omega)).2⟩
    · rw [vupd_ne _ _ e]; exact hF b' hb'
  · rw [vupd_ne _ _ (by omega)]; exact hE b' h1 h2
theorem T_hrs (h : Jv B crowd bus ans lim cmp sof kin lou pit pla cas hrs nws hat wea n w ln) {b : Nat} (hb : b < n) (v : Int32) : Jv B crowd bus ans lim cmp sof kin lou pit pla cas (upd hrs b v) nws hat wea n w ln := by
  obtain ⟨hA, hc, hL, hO, hS, hK, hF, hI, hJ, hG, hGj, hE, hN, hD, hY, hZ⟩ := h
  have hn8 := hA.2
  refine ⟨hA, hc, hL, hO, hS, hK, hF, hI, hJ, hG, hGj, fun b' h1 h2 => ?_, hN, hD, hY, hZ.1, hZ.2.1, hZ.2.2.1, hZ.2.2.2.1, hZ.2.2.2.2.1, hZ.2.2.2.2.2.1, hZ.2.2.2.2.2.2.1, hZ.2.2.2.2.2.2.2.1, zI_upd hZ.2.2.2.2.2.2.2.2.1 (by omega) _, hZ.2.2.2.2.2.2.2.2.2⟩
  rw [upd_ne _ _ (by omega)]; exact hE b' h1 h2
theorem T_wear (h : Jv B crowd bus ans lim cmp sof kin lou pit pla cas hrs nws hat wea n w ln) {b : Nat} (hb : b < n) {x : UInt32} (hx : x.toNat ≤ 1317011456) (hk0 : kin b = 0) (hx1 : (pit b ≠ -1 ∨ pla b ≠ -1) → x.toNat < 1065353216) : Jv B crowd bus ans lim cmp sof kin lou pit pla cas hrs nws hat (vf_upd wea b x) n w ln := by
  obtain ⟨hA, hc, hL, hO, hS, hK, hF, hI, hJ, hG, hGj, hE, hN, hD, hY, hZ⟩ := h
  have hn8 := hA.2
  refine ⟨hA, hc, hL, hO, hS, hK, fun b' hb' => ?_, hI, hJ, hG, hGj, fun b' h1 h2 => ?_, hN, hD, fun b' hb' => ?_, hZ.1, hZ.2.1, hZ.2.2.1, hZ.2.2.2.1, hZ.2.2.2.2.1, hZ.2.2.2.2.2.1, hZ.2.2.2.2.2.2.1, hZ.2.2.2.2.2.2.2.1, hZ.2.2.2.2.2.2.2.2.1, hZ.2.2.2.2.2.2.2.2.2.1, hZ.2.2.2.2.2.2.2.2.2.2.1, zF_upd hZ.2.2.2.2.2.2.2.2.2.2.2 (by omega) _⟩
  · by_cases e : b' = b
    · rw [e, vupd_eq]; exact ⟨(hF b (by omega)).1, hx⟩
    · rw [vupd_ne _ _ e]; exact hF b' hb'
  · rw [vupd_ne _ _ (by omega)]; exact hE b' h1 h2
  · by_cases e : b' = b
    · rw [e, vupd_eq]; exact ⟨hx1, fun q => by rw [hk0] at q; exact absurd q (by decide)⟩
    · rw [vupd_ne _ _ e]; exact hY b' hb'
end TR
