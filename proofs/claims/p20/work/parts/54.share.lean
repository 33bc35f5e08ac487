/-! share, on both sides -/
theorem rl_ct_s {g : am_S} {t p s j : Nat} (h : p ≤ j) : rl_ct g t p s (j + 1) = rl_ct g t p s j + (if g 23 t j = nI s then 1 else 0) := by
  have st : rl_ct g t p s (j + 1) = rl_ct g t p s j + (match decide (p ≤ j ∧ g 23 t j = nI s) with | true => 1 | false => 0) := rfl
  rw [st]
  by_cases c : g 23 t j = nI s
  · rw [decide_eq_true ⟨h, c⟩, if_pos c]
  · rw [decide_eq_false (fun z => c z.2), if_neg c]
theorem rl_ct_p {g : am_S} {t p s : Nat} : rl_ct g t p s p = 0 := (pu_cn_0 p).mpr (fun i hi => decide_eq_false (fun z => by omega))
theorem lm_shr_no {a1 a2 a3 a4 a5 a7 : Int32} {o1 o2 o3 : Option am_v} {Y : am_S} : vX7_share_102 a1 a2 a3 a4 a5 0 a7 o1 o2 o3 Y = some (.inl none, am_up Y 24 0 0 3) := by
  have e : vX7_share_227 a1 a2 a3 a4 a5 0 a7 o1 o2 o3 Y = some (.inl none, am_up Y 24 0 0 3) := by
    rw [eX7_share_227, if_pos rfl, pu_lt', eX7_share_244, if_pos rfl]
    split <;> rfl
  rw [eX7_share_102, if_pos rfl, e]
  split <;> rfl
def rl_shd (gc : am_S) (u p n : Nat) : Prop := (∀ i, i < n → gc 22 u (p + i) = 1) ∧ rl_may gc u p n
theorem lm_shr {be : Nat → Nat} {al : Nat → Bool} {gc Y : am_S} {u p n : Nat} (A1 A2 : Int32) (hpg : rl_pg be al gc Y) (hal : rl_al be al Y) (hu : u < 8) (hpn : p + n ≤ 16) (hm : ∀ i, p ≤ i → i < p + n → ¬ gc 23 u i = -1) :
    (rl_shd gc u p n ∧ ∃ o1 o2 o3, vX7_share_102 A1 A2 (nI u) (nI p) (nI n) 1 0 none none none Y = vX7_share_227 A1 A2 (nI u) (nI p) (nI n) 1 (nI n) o1 o2 o3 Y) ∨ (¬ rl_shd gc u p n ∧ vX7_share_102 A1 A2 (nI u) (nI p) (nI n) 1 0 none none none Y = some (.inl none, am_up Y 24 0 0 3)) := by
  have L := pu_loopE n (fun j (x : Option am_v × Option am_v × Option am_v) => vX7_share_102 A1 A2 (nI u) (nI p) (nI n) 1 (nI j) x.1 x.2.1 x.2.2 Y) (fun j _ => ∀ i, i < j → gc 22 u (p + i) = 1 ∧ ∀ s, s < 128 → gc 23 u (p + i) = nI s → rl_pc gc s + rl_ct gc u p s (p + n) ≤ 20)
    (fun r => r = (.inl none, am_up Y 24 0 0 3) ∧ ¬ rl_shd gc u p n) (fun j x hj hP => by
    obtain ⟨o1, o2, o3⟩ := x
    show (∃ x' : Option am_v × Option am_v × Option am_v, (∀ i, i < j + 1 → gc 22 u (p + i) = 1 ∧ ∀ s, s < 128 → gc 23 u (p + i) = nI s → rl_pc gc s + rl_ct gc u p s (p + n) ≤ 20) ∧ vX7_share_102 A1 A2 (nI u) (nI p) (nI n) 1 (nI j) o1 o2 o3 Y = vX7_share_102 A1 A2 (nI u) (nI p) (nI n) 1 (nI (j + 1)) x'.1 x'.2.1 x'.2.2 Y) ∨ ∃ r, (r = (.inl none, am_up Y 24 0 0 3) ∧ ¬ rl_shd gc u p n) ∧ vX7_share_102 A1 A2 (nI u) (nI p) (nI n) 1 (nI j) o1 o2 o3 Y = some r
    obtain ⟨p1, p2, p3⟩ := hpg u (p + j) hu (by omega)
    have hlt : 16 * u + p + j < 128 := by omega
    rw [← Nat.add_assoc] at p2
    rw [eX7_share_102, if_neg (nI_ge hj (by omega)), if_neg (show ¬ (1 : Int32) = 0 by decide), pu_16, nI_add, pu_in hlt (by omega), pu_g, pu_lv, nI_clamp (by omega), p2]
    rcases p1 with z | ⟨s, hs, z⟩
    · exact absurd z (hm (p + j) (by omega) (by omega))
    · obtain ⟨ha, hk, -⟩ := p3 s hs z
      rw [← Nat.add_assoc] at hk
      have hb := (hal.1 s hs ha).1
      have hpc := rl_pc_le gc s
      have hct : rl_ct gc u p s (p + n) ≤ p + n := pu_cn_le _ _
      rw [z, rl_bi_s hs]
      obtain ⟨c, hc, e⟩ := pu_loop n (fun i (c : Nat) => vX7_share_137 A1 A2 (nI u) (nI p) (nI n) 1 (nI j) (nI (be s)) (nI c) (nI i) Y) (fun i c => c = rl_ct gc u p s (p + i)) (fun i c hi hc => by
        refine ⟨_, rfl, ?_⟩
        subst hc
        have hlt2 : 16 * u + p + i < 128 := by omega
        have hiff := rl_pg_iff hpg hal hs ha hlt2
        rw [show (16 * u + p + i) / 16 = u by omega, show (16 * u + p + i) % 16 = p + i by omega] at hiff
        rw [eX7_share_137, if_neg (nI_ge hi (by omega)), pu_16, nI_add, pu_in hlt2 (by omega), pu_g, nI_clamp (by omega), pu_lv, nI_1, nI_1, ← Nat.add_assoc, rl_ct_s (show p ≤ p + i by omega)]
        by_cases c : gc 23 u (p + i) = nI s
        · rw [if_pos (hiff.mpr c), if_pos c]
        · rw [if_neg (fun w => c (hiff.mp w)), if_neg c]; rfl) n 0 0 (Nat.zero_add _) rl_ct_p.symm
      have E : vX7_share_137 A1 A2 (nI u) (nI p) (nI n) 1 (nI j) (nI (be s)) 0 0 Y = vX7_share_137 A1 A2 (nI u) (nI p) (nI n) 1 (nI j) (nI (be s)) (nI c) (nI n) Y := e
      rw [E, eX7_share_137, if_pos (nI_le (Nat.le_refl _) (by omega)), pu_16, nI_add, pu_in hlt (by omega), pu_g, nI_clamp (by omega), hk]
      by_cases k1 : gc 22 u (p + j) = 1
      · rw [if_pos k1, lm_mappings, pu_bI, rl_mp_eq hpg hal hs ha, nI_add, hc, nI_1]
        by_cases c20 : rl_pc gc s + rl_ct gc u p s (p + n) ≤ 20
        · rw [if_neg (pu_ngt (x := 20) (k := 20) rfl c20 (by omega))]
          refine Or.inl ⟨(_, _, _), fun i hi => ?_, rfl⟩
          by_cases e : i = j
          · subst e
            refine ⟨k1, fun r hr w => ?_⟩
            rw [z] at w
            rw [← pu_inj (by omega) (by omega) w]; exact c20
          · exact hP i (by omega)
        · rw [if_pos (pu_gt (x := 20) (k := 20) rfl (by omega) (by omega))]
          exact Or.inr ⟨_, ⟨rfl, fun q => c20 (q.2 (p + j) (by omega) (by omega) s hs z)⟩, lm_shr_no⟩
      · rw [if_neg k1]
        exact Or.inr ⟨_, ⟨rfl, fun q => k1 (q.1 j hj)⟩, lm_shr_no⟩) n 0 (none, none, none) (Nat.zero_add _) (fun i hi => by omega)
  rcases L with ⟨x, hP, e⟩ | ⟨r, ⟨rfl, h⟩, e⟩
  · refine Or.inl ⟨⟨fun i hi => (hP i hi).1, fun i i1 i2 s hs w => ?_⟩, x.1, x.2.1, x.2.2, ?_⟩
    · have := (hP (i - p) (by omega)).2 s hs
      rw [show p + (i - p) = i by omega] at this
      exact this w
    · refine Eq.trans (show vX7_share_102 A1 A2 (nI u) (nI p) (nI n) 1 0 none none none Y = vX7_share_102 A1 A2 (nI u) (nI p) (nI n) 1 (nI n) x.1 x.2.1 x.2.2 Y from e) ?_
      rw [eX7_share_102, if_pos (nI_le (Nat.le_refl _) (by omega))]
  · exact Or.inr ⟨h, e⟩
theorem lc_shared {gc : am_S} {u p n : Nat} (hu : u < 8) (hpn : p + n ≤ 16) (hm : vX6_needMapped (nI u) (nI p) (nI n) gc = some (.inl none, gc)) :
    ((∀ i, i < n → gc 22 u (p + i) = 1) ∧ vX6_needShared (nI u) (nI p) (nI n) gc = some (.inl none, gc)) ∨ (¬ (∀ i, i < n → gc 22 u (p + i) = 1) ∧ vX6_needShared (nI u) (nI p) (nI n) gc = some (.inr 3, gc)) := by
  rw [eX6_needShared, hm, pu_bV]
  have L := pu_loopE (p + n) (fun j (_ : Unit) => vX6_needShared_10 (nI u) (nI p) (nI n) (nI j) gc) (fun j _ => p ≤ j ∧ ∀ i, p ≤ i → i < j → gc 22 u i = 1) (fun r => r = (.inr 3, gc) ∧ ¬ ∀ i, i < n → gc 22 u (p + i) = 1) (fun j _ hj hP => by
    show (∃ x' : Unit, (p ≤ j + 1 ∧ ∀ i, p ≤ i → i < j + 1 → gc 22 u i = 1) ∧ vX6_needShared_10 (nI u) (nI p) (nI n) (nI j) gc = vX6_needShared_10 (nI u) (nI p) (nI n) (nI (j + 1)) gc) ∨ ∃ r, (r = (.inr 3, gc) ∧ ¬ ∀ i, i < n → gc 22 u (p + i) = 1) ∧ vX6_needShared_10 (nI u) (nI p) (nI n) (nI j) gc = some r
    rw [eX6_needShared_10, nI_add, if_neg (nI_ge hj (by omega)), pu_in hu (by omega), pu_g, pu_g, pu_in (show j < 16 by omega) (by omega), pu_g, nI_clamp (show u < 2 ^ 31 by omega), nI_clamp (show j < 2 ^ 31 by omega), nI_1]
    by_cases c : gc 22 u j = 1
    · rw [if_pos c]
      refine Or.inl ⟨(), ⟨by omega, fun i i1 i2 => ?_⟩, rfl⟩
      by_cases e : i = j
      · rw [e]; exact c
      · exact hP.2 i i1 (by omega)
    · rw [if_neg c]
      refine Or.inr ⟨_, ⟨rfl, fun q => c ?_⟩, rfl⟩
      have := q (j - p) (by omega)
      rw [show p + (j - p) = j by omega] at this
      exact this) n p () rfl ⟨Nat.le_refl _, fun i i1 i2 => by omega⟩
  rcases L with ⟨_, hP, e⟩ | ⟨r, ⟨rfl, h⟩, e⟩
  · refine Or.inl ⟨fun i hi => hP.2 (p + i) (by omega) (by omega), Eq.trans e ?_⟩
    show vX6_needShared_10 (nI u) (nI p) (nI n) (nI (p + n)) gc = _
    rw [eX6_needShared_10, nI_add, if_pos (nI_le (Nat.le_refl _) (by omega))]
  · exact Or.inr ⟨h, e⟩
theorem sm_share {gc gm : am_S} (x y z w v : Int32) (h : rl_Q gc gm) : sm_OV th_123 (vX6_share x y z w v gc) (vX7_share x y z w v gm) := by
  obtain ⟨be, al, R, F⟩ := h
  have n1 : vX7_share_36 x y z w v gm = some (.inl none, am_up gm 24 0 0 1) := by
    rw [eX7_share_36, eX7_share_58, pu_lt', pu_us, if_neg (by decide)]
  have n2 : vX7_share_53 x y z w v gm = some (.inl none, am_up gm 24 0 0 2) := by
    rw [eX7_share_53, eX7_share_58, pu_lt', pu_us, if_neg (by decide)]
  have bad : ∀ (e : Nat) (v : Int32), th_123 e = v → ¬ v = 0 → sm_OV th_123 (some (.inr e, gc)) (some (.inl none, am_up gm 24 0 0 v)) := fun e v he hv => ⟨gc, _, ⟨be, al, rl_thr_R R, F⟩, rfl, Or.inr ⟨e, rfl, by rw [pu_us, he], by rw [he]; exact hv⟩⟩
  have b1 := bad 1 1 rfl (by decide)
  have b2 := bad 2 2 rfl (by decide)
  rw [eX6_share, eX7_share]
  rcases sm_living R.1 rfl x with ⟨e1, e2⟩ | ⟨t, ht, rfl, hl, e1, e2⟩
  · rw [e1, e2, pu_bAx, pu_bI, if_pos rfl, n1]; exact b1
  rw [e1, e2, pu_bA19, pu_bI, if_neg (show ¬ (1 : Int32) = 0 by decide)]
  rcases sm_page y gc gm with ⟨p, hp, rfl, e3, e4⟩ | ⟨e3, e4⟩
  rotate_left
  · rw [e3, e4, pu_bVx, pu_bI, if_pos rfl, n1]; exact b1
  rw [e3, e4, pu_bV, pu_bI, if_neg (show ¬ (1 : Int32) = 0 by decide)]
  rcases sm_living R.1 rfl z with ⟨e5, e6⟩ | ⟨u, hu, rfl, hl2, e5, e6⟩
  · rw [e5, e6, pu_bAx, pu_bI, if_pos rfl, n1]; exact b1
  rw [e5, e6, pu_bA19, pu_bI, if_neg (show ¬ (1 : Int32) = 0 by decide)]
  rcases sm_page w gc gm with ⟨p2, hp2, rfl, e7, e8⟩ | ⟨e7, e8⟩
  rotate_left
  · rw [e7, e8, pu_bVx, pu_bI, if_pos rfl, n1]; exact b1
  rw [e7, e8, pu_bV, pu_bI, if_neg (show ¬ (1 : Int32) = 0 by decide)]
  rcases sm_count v gc with ⟨n, hn1, hn2, rfl, e9, c1, c2⟩ | ⟨e9, c⟩
  rotate_left
  · rw [e9, pu_bVx]
    rcases c with c | ⟨c1, c2⟩
    · rw [if_pos c, n2]; exact b2
    · rw [if_neg c1, if_neg c2, n2]; exact b2
  rw [e9, pu_bV, if_neg c1, if_pos c2, eX7_share_58, pu_lt', pu_us, if_pos (show (0 : Int32) ≤ 0 by decide)]
  have R0 := rl_thr_R (v := 0) R
  have up3 : am_up (am_up gm 24 0 0 0) 24 0 0 3 = am_up gm 24 0 0 3 := by
    funext f i j
    unfold am_up
    by_cases q : f = 24 ∧ i = 0 ∧ j = 0
    · rw [if_pos q, if_pos q]
    · rw [if_neg q, if_neg q, if_neg q]
  have b3 := bad 3 3 rfl (by decide)
  rw [← up3] at b3
  rcases sm_unmapped (Y := am_up gm 24 0 0 0) R.2.2.1 R.2.2.2.2.1 (pu_uf (by decide)) ht hp hn2 with ⟨h16, hun, e10, e11⟩ | ⟨e10, e11⟩
  rotate_left
  · rw [e10, e11, pu_bVx, pu_bI, if_pos rfl, lm_shr_no]; exact b3
  rw [e10, e11, pu_bV, pu_bI, if_neg (show ¬ (1 : Int32) = 0 by decide)]
  rcases sm_mapped (Y := am_up gm 24 0 0 0) R.2.2.1 R.2.2.2.2.1 (pu_uf (by decide)) hu hp2 hn2 with ⟨g16, hma, e12, e13⟩ | ⟨e12, e13⟩
  rotate_left
  · rw [eX6_needShared, e12, e13, pu_bVx, pu_bVx, pu_bI, if_pos rfl, lm_shr_no]; exact b3
  rw [e13, pu_bI, if_neg (show ¬ (1 : Int32) = 0 by decide)]
  have LM := lm_shr (nI t) (nI p) R0.2.2.1 R0.2.2.2.2.1 hu g16 hma
  rcases lc_shared hu g16 e12 with ⟨hsh, e14⟩ | ⟨hsh, e14⟩
  rotate_left
  · rcases LM with ⟨l1, -⟩ | ⟨-, l2⟩
    · exact absurd l1.1 hsh
    · rw [e14, pu_bVx, l2]; exact b3
  obtain ⟨g1, k1, k2, hmay⟩ := lc_may (p := p2) (n := n) R.2.2.2.1 (fun i hi => (R.2.2.1 u i hu hi).1) hu g16
  have R1 := rl_seen_R R0 (fun f a _ _ => k1 f a) k2
  have F1 : rl_fx 128 al g1 := fun s hs ha hx => by rw [rl_pc_congr (k1 23 (by decide))]; exact F s hs ha hx
  rw [e14, pu_bV, pu_in hu (by omega), pu_g]
  rcases hmay with ⟨hy, e15⟩ | ⟨hy, e15⟩
  rotate_left
  · rcases LM with ⟨l1, -⟩ | ⟨-, l2⟩
    · exact absurd l1.2 hy
    · rw [e15, pu_bI, if_pos rfl, l2]
      exact ⟨g1, _, ⟨be, al, rl_thr_R R1, F1⟩, rfl, Or.inr ⟨3, rfl, by rw [pu_us]; rfl, by decide⟩⟩
  rcases LM with ⟨-, o1, o2, o3, l2⟩ | ⟨l1, -⟩
  rotate_left
  · exact absurd ⟨hsh, hy⟩ l1
  rw [e15, pu_bI, if_neg (show ¬ (1 : Int32) = 0 by decide), l2, eX7_share_227, if_neg (show ¬ (1 : Int32) = 0 by decide), pu_lt']
  have e23 : ∀ i j, g1 23 i j = gc 23 i j := fun i j => by rw [k1 23 (by decide)]
  obtain ⟨X, Y, ⟨p1, pF, p3, -⟩, u1, u2⟩ := pu_loop2 n (fun j (X : am_S) => vX6_share_75 (nI t) (nI p) (nI u) (nI p2) (nI n) (nI t) (nI u) (nI j) X) (fun j (Y : am_S) => vX7_share_244 (nI t) (nI p) (nI u) (nI p2) (nI n) 1 (nI j) o1 o2 o3 Y) (fun j X Y => rl_R 8 be al X Y ∧ rl_fx 128 al X ∧ Y 24 0 0 = 0 ∧ X 19 t 4 = 1 ∧ (∀ i, i < n → X 23 u (p2 + i) = gc 23 u (p2 + i)) ∧ ∀ i, j ≤ i → i < n → X 23 t (p + i) = -1) (fun j X Y hj hq => by
    obtain ⟨q1, q2, q3, q4, q5, q6⟩ := hq
    have hx := q6 j (Nat.le_refl _) hj
    have hpj : p + j < 16 := by omega
    have hqj : p2 + j < 16 := by omega
    obtain ⟨z1, z2, z3⟩ := q1.2.2.1 u (p2 + j) hu hqj
    rcases z1 with z | ⟨s, hs, z⟩
    · rw [q5 j hj] at z; exact absurd z (hma _ (by omega) (by omega))
    obtain ⟨ha, -, -⟩ := z3 s hs z
    rw [z, rl_bi_s hs] at z2
    obtain ⟨RM, M23⟩ := rl_map_R (k := 1) q1 ht hpj hs ha hx (Or.inr (Or.inl rfl)) (fun _ => q4)
    refine ⟨lc_mp X t (p + j) s 1, lm_mpp Y (16 * t + (p + j)) (be s) 1, ⟨RM, rl_fx_map q2 ht hpj hs hx M23 (Or.inr rfl), ?_, ?_, fun i hi => ?_, fun i i1 i2 => ?_⟩, ?_, ?_⟩
    · unfold lm_mpp; rw [pu_uf (by decide), pu_uf (by decide)]; exact q3
    · unfold lc_mp; rw [pu_uf (by decide), pu_uf (by decide), pu_uf (by decide)]; exact q4
    · rw [M23, pu_ub, if_neg, q5 i hi]
      intro w
      rw [← w.1, ← w.2, q5 i hi] at hx
      exact hma _ (by omega) (by omega) hx
    · rw [M23, pu_uj (by omega)]; exact q6 i (by omega) i2
    · show vX6_share_75 (nI t) (nI p) (nI u) (nI p2) (nI n) (nI t) (nI u) (nI j) X = vX6_share_75 (nI t) (nI p) (nI u) (nI p2) (nI n) (nI t) (nI u) (nI (j + 1)) (lc_mp X t (p + j) s 1)
      rw [eX6_share_75, if_neg (nI_ge hj (by omega)), pu_in hu (by omega), pu_g, pu_g, nI_add, nI_add, pu_in hqj (by omega), pu_g, pu_in ht (by omega), pu_g, nI_clamp (show u < 2 ^ 31 by omega), nI_clamp (show p2 + j < 2 ^ 31 by omega), z, lc_map' ht hpj hs, pu_bV, nI_1]
    · rw [eX7_share_244, if_neg (nI_ge hj (by omega)), if_neg (show ¬ (1 : Int32) = 0 by decide), pu_16, pu_16, nI_add, nI_add, Nat.add_assoc, Nat.add_assoc, pu_in (show 16 * u + (p2 + j) < 128 by omega) (by omega), pu_g, pu_in (show 16 * t + (p + j) < 128 by omega) (by omega), pu_g, pu_lt', pu_g, pu_lt', nI_clamp (show 16 * u + (p2 + j) < 2 ^ 31 by omega), nI_clamp (show 16 * t + (p + j) < 2 ^ 31 by omega), z2, nI_1]
      rfl) n 0 g1 (am_up (am_up gm 24 0 0 0) 24 0 0 0) (Nat.zero_add _) ⟨rl_thr_R R1, F1, pu_us, by rw [k1 19 (by decide)]; exact hl, fun i hi => e23 _ _, fun i i1 i2 => by rw [e23]; exact hun _ (by omega) (by omega)⟩
  refine ⟨X, Y, ⟨be, al, p1, pF⟩, ?_, Or.inl ⟨?_, p3⟩⟩
  · refine Eq.trans (show vX7_share_244 (nI t) (nI p) (nI u) (nI p2) (nI n) 1 0 o1 o2 o3 (am_up (am_up gm 24 0 0 0) 24 0 0 0) = vX7_share_244 (nI t) (nI p) (nI u) (nI p2) (nI n) 1 (nI n) o1 o2 o3 Y from u2) ?_
    rw [eX7_share_244, if_pos (nI_le (Nat.le_refl _) (by omega))]
  · refine Eq.trans (show vX6_share_75 (nI t) (nI p) (nI u) (nI p2) (nI n) (nI t) (nI u) 0 g1 = vX6_share_75 (nI t) (nI p) (nI u) (nI p2) (nI n) (nI t) (nI u) (nI n) X from u1) ?_
    rw [eX6_share_75, if_pos (nI_le (Nat.le_refl _) (by omega))]
