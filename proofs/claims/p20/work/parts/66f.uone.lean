/-! one store: the class like some reference, the reference like some class -/
def LQ (g : am_S) : Prop := (∃ gm, rl_Q g gm) ∧ ∃ gc, rl_Q gc g
def uC_V (th : Nat → Int32) (C : am_S → am_R) : Prop := ∀ gc gm, rl_Q gc gm → ∃ k gc' gm', la_wV th (C gc) k gc' ∧ rl_Q gc' gm'
def uC_I (th : Nat → Int32) (C : am_S → am_R) : Prop := ∀ gc gm, rl_Q gc gm → ∃ gc' gm', uc_O th (C gc) gc' ∧ rl_Q gc' gm'
def uM_V (M : am_S → am_R) : Prop := ∀ gc gm, rl_Q gc gm → ∃ gc' gm', M gm = some (.inl none, gm') ∧ rl_Q gc' gm'
def uM_I (M : am_S → am_R) : Prop := ∀ gc gm, rl_Q gc gm → ∃ gc' gm' w, M gm = some (.inl (some (.inl w)), gm') ∧ rl_Q gc' gm'
theorem uC_V_of {th : Nat → Int32} {C M : am_S → am_R} (h : ∀ gc gm, rl_Q gc gm → sm_OV th (C gc) (M gm)) : uC_V th C := fun gc gm Q => by
  obtain ⟨gc', gm', Q', m, ⟨c, -⟩ | ⟨e, c, -, z⟩⟩ := h gc gm Q
  · exact ⟨0, gc', gm', Or.inl ⟨c, rfl⟩, Q'⟩
  · exact ⟨th e, gc', gm', Or.inr ⟨e, c, rfl, z⟩, Q'⟩
theorem uM_V_of {th : Nat → Int32} {C M : am_S → am_R} (h : ∀ gc gm, rl_Q gc gm → sm_OV th (C gc) (M gm)) : uM_V M := fun gc gm Q => by
  obtain ⟨gc', gm', Q', m, -⟩ := h gc gm Q
  exact ⟨gc', gm', m, Q'⟩
theorem uC_I_of {th : Nat → Int32} {C M : am_S → am_R} (h : ∀ gc gm, rl_Q gc gm → sm_OI th (C gc) (M gm)) : uC_I th C := fun gc gm Q => by
  obtain ⟨gc', gm', w, Q', m, ⟨c, -⟩ | ⟨e, c, -, z⟩⟩ := h gc gm Q
  · exact ⟨gc', gm', Or.inl ⟨w, c⟩, Q'⟩
  · exact ⟨gc', gm', Or.inr ⟨e, c, z⟩, Q'⟩
theorem uM_I_of {th : Nat → Int32} {C M : am_S → am_R} (h : ∀ gc gm, rl_Q gc gm → sm_OI th (C gc) (M gm)) : uM_I M := fun gc gm Q => by
  obtain ⟨gc', gm', w, Q', m, -⟩ := h gc gm Q
  exact ⟨gc', gm', w, m, Q'⟩
/-- what the class leaves, and then the reference -/
theorem LQ_c {g g1 gm' : am_S} (h : LQ g) (k1 : kp_eq cK g g1) (Q1 : rl_Q g1 gm') : ∃ gc, rl_Q gc g1 := by
  obtain ⟨-, gc, Q2⟩ := h
  exact ⟨gc, rl_Q_same Q2 (fun _ _ => rfl) (fun f a _ => cK_f k1 f a)⟩
theorem LQ_m {g1 g2 gm' gc' : am_S} (Q1 : rl_Q g1 gm') (k2 : kp_eq mK2 g1 g2) (Q2 : rl_Q gc' g2) : LQ g2 := ⟨⟨gm', rl_Q_same Q1 (fun f hf => mK2_f k2 f (Or.inl hf)) (fun _ _ _ => rfl)⟩, gc', Q2⟩
theorem LQ_45 {g gc : am_S} {v : Int32} (h : rl_Q gc g) : rl_Q gc (am_up g 45 0 0 v) := rl_Q_same h (fun _ _ => rfl) (fun f _ b => pu_uf (by omega))
theorem LQ_45c {g gm : am_S} {v : Int32} (h : rl_Q g gm) : rl_Q (am_up g 45 0 0 v) gm := rl_Q_same h (fun f b => pu_uf (by omega)) (fun _ _ _ => rfl)
def ua_V (th : Nat → Int32) (C M : am_S → am_R) (g : am_S) : Prop := ∃ k g1 g2, la_wV th (C g) k g1 ∧ M g1 = some (.inl none, g2) ∧ LQ g2
theorem ua_V_of {th : Nat → Int32} {C M : am_S → am_R} (hC : ∀ g r, C g = some r → kp_eq cK g r.2) (hM : ∀ g r, M g = some r → kp_eq mK2 g r.2) (c : uC_V th C) (m : uM_V M) {g : am_S} (Q : LQ g) : ua_V th C M g := by
  obtain ⟨gm, Q0⟩ := Q.1
  obtain ⟨k, g1, gm', w, Q1⟩ := c g gm Q0
  have k1 : kp_eq cK g g1 := by
    rcases w with ⟨e, -⟩ | ⟨x, e, -⟩
    · exact hC g _ e
    · exact hC g _ e
  obtain ⟨gc, Q2⟩ := LQ_c Q k1 Q1
  obtain ⟨gc', g2, e2, Q3⟩ := m gc g1 Q2
  exact ⟨k, g1, g2, w, e2, LQ_m Q1 (hM _ _ e2) Q3⟩
def ua_I (th : Nat → Int32) (C M : am_S → am_R) (g : am_S) : Prop := ∃ k g1 w g2, la_wI th (C g) k g1 ∧ M g1 = some (.inl (some (.inl w)), g2) ∧ LQ g2
theorem ua_I_of {th : Nat → Int32} {C M : am_S → am_R} (hC : ∀ g r, C g = some r → kp_eq cK g r.2) (hM : ∀ g r, M g = some r → kp_eq mK2 g r.2) (c : uC_I th C) (m : uM_I M) {g : am_S} (Q : LQ g) : ua_I th C M g := by
  obtain ⟨gm, Q0⟩ := Q.1
  obtain ⟨g1, gm', w, Q1⟩ := c g gm Q0
  have k1 : kp_eq cK g g1 := by
    rcases w with ⟨w, e⟩ | ⟨x, e, -⟩
    · exact hC g _ e
    · exact hC g _ e
  obtain ⟨gc, Q2⟩ := LQ_c Q k1 Q1
  rcases w with ⟨w, e⟩ | ⟨x, e, z⟩
  · obtain ⟨gc', g2, v, e2, Q3⟩ := m gc _ (LQ_45 (v := w) Q2)
    exact ⟨0, _, v, g2, Or.inl ⟨w, g1, e, rfl, rfl⟩, e2, LQ_m (LQ_45c Q1) (hM _ _ e2) Q3⟩
  · obtain ⟨gc', g2, v, e2, Q3⟩ := m gc g1 Q2
    exact ⟨th x, g1, v, g2, Or.inr ⟨x, e, rfl, z⟩, e2, LQ_m Q1 (hM _ _ e2) Q3⟩
def ua_B (C M : am_S → am_R) (g : am_S) : Prop := ∃ w g1 v g2, C g = some (.inl (some (.inl w)), g1) ∧ M g1 = some (.inl (some (.inl v)), g2) ∧ LQ g2
theorem ua_B_of {C M : am_S → am_R} (hC : ∀ g r, C g = some r → kp_eq cK g r.2) (hM : ∀ g r, M g = some r → kp_eq mK2 g r.2) (h : ∀ gc gm, rl_Q gc gm → sm_OB (C gc) (M gm)) {g : am_S} (Q : LQ g) : ua_B C M g := by
  obtain ⟨gm, Q0⟩ := Q.1
  obtain ⟨g1, gm', w, Q1, c, -⟩ := h g gm Q0
  obtain ⟨gc, Q2⟩ := LQ_c Q (hC g _ c) Q1
  obtain ⟨gc', g2, v, Q3, -, e2⟩ := h gc g1 Q2
  exact ⟨w, g1, v, g2, c, e2, LQ_m Q1 (hM _ _ e2) Q3⟩
theorem uw_bVid {th : Nat → Int32} {c : am_R} {k : Int32} {g1 : am_S} (h : la_wV th c k g1) : la_wV th (am_bV c (fun g => some (.inl none, g))) k g1 := by
  rcases h with ⟨rfl, z⟩ | ⟨e, rfl, z⟩
  · exact Or.inl ⟨rfl, z⟩
  · exact Or.inr ⟨e, rfl, z⟩
theorem ua_spawn {g : am_S} (Q : LQ g) : ua_I th_3 vX6_spawn vX7_spawn g := ua_I_of (fun g r h => qX6_spawn g h) (fun g r h => qX7_spawn g h) (uC_I_of (fun _ _ q => sm_spawn q)) (uM_I_of (fun _ _ q => sm_spawn q)) Q
theorem ua_fork {g : am_S} (x : Int32) (Q : LQ g) : ua_I th_13 (vX6_fork x) (vX7_fork x) g := ua_I_of (fun g r h => qX6_fork x g h) (fun g r h => qX7_fork x g h) (uC_I_of (fun _ _ q => sm_fork x q)) (uM_I_of (fun _ _ q => sm_fork x q)) Q
theorem ua_read {g : am_S} (x y : Int32) (Q : LQ g) : ua_I th_134 (vX6_read x y) (vX7_read x y) g := ua_I_of (fun g r h => qX6_read x y g h) (fun g r h => qX7_read x y g h) (uC_I_of (fun _ _ q => sm_read x y q)) (uM_I_of (fun _ _ q => sm_read x y q)) Q
theorem ua_run {g : am_S} (x y : Int32) (Q : LQ g) : ua_I th_12 (vX6_run x y) (vX7_run x y) g := ua_I_of (fun g r h => qX6_run x y g h) (fun g r h => qX7_run x y g h) (fun _ _ q => uc_run x y q) (fun _ _ q => um_run x y q) Q
theorem ua_area {g : am_S} (x y z k : Int32) (Q : LQ g) : ua_V th_123 (vX6_area x y z k) (vX7_area x y z k) g := ua_V_of (fun g r h => qX6_area x y z k g h) (fun g r h => qX7_area x y z k g h) (uC_V_of (fun _ _ q => sm_area x y z k q)) (uM_V_of (fun _ _ q => sm_area x y z k q)) Q
theorem ua_share {g : am_S} (x y z w v : Int32) (Q : LQ g) : ua_V th_123 (vX6_share x y z w v) (vX7_share x y z w v) g := ua_V_of (fun g r h => qX6_share x y z w v g h) (fun g r h => qX7_share x y z w v g h) (uC_V_of (fun _ _ q => sm_share x y z w v q)) (uM_V_of (fun _ _ q => sm_share x y z w v q)) Q
theorem ua_free {g : am_S} (x y z : Int32) (Q : LQ g) : ua_V th_123 (vX6_free x y z) (vX7_free x y z) g := ua_V_of (fun g r h => qX6_free x y z g h) (fun g r h => qX7_free x y z g h) (uC_V_of (fun _ _ q => sm_free x y z q)) (uM_V_of (fun _ _ q => sm_free x y z q)) Q
theorem ua_exit {g : am_S} (x : Int32) (Q : LQ g) : ua_V th_1 (vX6_exit x) (vX7_exit x) g := ua_V_of (fun g r h => qX6_exit x g h) (fun g r h => qX7_exit x g h) (uC_V_of (fun _ _ q => sm_exit x q)) (uM_V_of (fun _ _ q => sm_exit x q)) Q
theorem ua_valuable {g : am_S} (x v : Int32) (hv : v = 0 ∨ v = 1) (Q : LQ g) : ua_V th_1 (vX6_valuable x v) (vX7_valuable x v) g := ua_V_of (fun g r h => qX6_valuable x v g h) (fun g r h => qX7_valuable x v g h) (uC_V_of (fun _ _ q => sm_valuable x v hv q)) (uM_V_of (fun _ _ q => sm_valuable x v hv q)) Q
theorem ua_slot {g : am_S} (x y : Int32) (Q : LQ g) : ua_V th_12 (vX6_slot x y) (vX7_slot x y) g := ua_V_of (fun g r h => qX6_slot x y g h) (fun g r h => qX7_slot x y g h) (uC_V_of (fun _ _ q => sm_slotO x y q)) (uM_V_of (fun _ _ q => sm_slotO x y q)) Q
theorem ua_write {g : am_S} (x y v : Int32) (Q : LQ g) : ua_V th_134 (vX6_write x y v) (vX7_write x y v) g := by
  refine ua_V_of (fun g r h => qX6_write x y v g h) (fun g r h => qX7_write x y v g h) (fun gc gm q => ?_) (fun gc gm q => ?_) Q
  · obtain ⟨k, gc', gm', w, Q'⟩ := uc_put (w := 1) (b4 := 0) (Or.inl ⟨rfl, rfl⟩) x y v q
    rw [eX6_write]
    exact ⟨k, gc', gm', uw_bVid w, Q'⟩
  · rw [eX7_write]
    exact um_put (w := 1) (b4 := 0) (Or.inl ⟨rfl, rfl⟩) x y v q
theorem ua_load {g : am_S} (x y v : Int32) (Q : LQ g) : ua_V th_134 (vX6_load x y v) (vX7_load x y v) g := by
  refine ua_V_of (fun g r h => qX6_load x y v g h) (fun g r h => qX7_load x y v g h) (fun gc gm q => ?_) (fun gc gm q => ?_) Q
  · obtain ⟨k, gc', gm', w, Q'⟩ := uc_put (w := 2) (b4 := 1) (Or.inr ⟨rfl, rfl⟩) x y v q
    rw [eX6_load]
    exact ⟨k, gc', gm', uw_bVid w, Q'⟩
  · rw [eX7_load]
    exact um_put (w := 2) (b4 := 1) (Or.inr ⟨rfl, rfl⟩) x y v q
theorem ua_tick {g : am_S} (Q : LQ g) : ∃ g1 g2, vX6_tick g = some (.inl none, g1) ∧ vX7_tick g1 = some (.inl none, g2) ∧ LQ g2 := by
  obtain ⟨gm, Q0⟩ := Q.1
  obtain ⟨g1, gm', Q1, c, -⟩ := sm_tick Q0
  obtain ⟨gc, Q2⟩ := LQ_c Q (qX6_tick g c) Q1
  obtain ⟨gc', g2, Q3, -, m⟩ := sm_tick Q2
  exact ⟨g1, g2, c, m, LQ_m Q1 (qX7_tick _ m) Q3⟩
theorem ua_about {g : am_S} (x w : Int32) (Q : LQ g) : ua_B (vX6_about x w) (vX7_about x w) g := ua_B_of (fun g r h => qX6_about x w g h) (fun g r h => qX7_about x w g h) (fun _ _ q => sm_about x w q) Q
theorem ua_page {g : am_S} (x y w : Int32) (Q : LQ g) : ua_B (vX6_page x y w) (vX7_page x y w) g := ua_B_of (fun g r h => qX6_page x y w g h) (fun g r h => qX7_page x y w g h) (fun _ _ q => sm_pageO x y w q) Q
theorem ua_frame {g : am_S} (x : Int32) (Q : LQ g) : ua_B (vX6_frame x) (vX7_frame x) g := ua_B_of (fun g r h => qX6_frame x g h) (fun g r h => qX7_frame x g h) (fun _ _ q => sm_frame x q) Q
theorem ua_slots {g : am_S} (x : Int32) (Q : LQ g) : ua_B (vX6_slots x) (vX7_slots x) g := ua_B_of (fun g r h => qX6_slots x g h) (fun g r h => qX7_slots x g h) (fun _ _ q => sm_slots x q) Q
theorem ua_pool {g : am_S} (x : Int32) (Q : LQ g) : ua_B (vX6_pool x) (vX7_pool x) g := ua_B_of (fun g r h => qX6_pool x g h) (fun g r h => qX7_pool x g h) (fun _ _ q => sm_pool x q) Q
/-- both tell 0 -/
theorem ua_broken {g : am_S} (Q : LQ g) : ∃ g1 g2, vX6_broken g = some (.inl (some (.inl 0)), g1) ∧ vX7_broken g1 = some (.inl (some (.inl 0)), g2) ∧ LQ g2 := by
  have B : ua_B vX6_broken vX7_broken g := ua_B_of (fun g r h => qX6_broken g h) (fun g r h => qX7_broken g h) (fun _ _ q => sm_broken q) Q
  obtain ⟨w, g1, v, g2, c, m, Q2⟩ := B
  have z : ∀ (h : am_S) (x : Int32) (h' : am_S), vX7_broken h = some (.inl (some (.inl x)), h') → x = 0 := fun h x h' e => by
    rw [eX7_broken, pu_lt'] at e
    cases e
    rfl
  obtain ⟨gm, Q0⟩ := Q.1
  obtain ⟨gc', gm', x, -, c', m'⟩ := sm_broken Q0
  have e1 : w = 0 := by
    rw [c] at c'
    have := z _ _ _ m'
    rw [this] at c'
    cases c'
    rfl
  have e2 : v = 0 := z _ _ _ m
  rw [e1] at c
  rw [e2] at m
  exact ⟨g1, g2, c, m, Q2⟩
/-- what slot answers is in its numbers alone -/
theorem uc_slotk (x y : Int32) : ∃ v, ∀ g k g1, la_wV th_12 (vX6_slot x y g) k g1 → k = v := by
  have ex : ∀ (e : Nat) (g g1 : am_S) (k : Int32), la_wV th_12 (some (.inr e, g)) k g1 → k = th_12 e := fun e g g1 k h => by
    rcases h with ⟨z, -⟩ | ⟨e', z, w, -⟩
    · cases z
    · cases z
      exact w
  have ok : ∀ (g g1 : am_S) (k : Int32), la_wV th_12 (some (.inl none, g)) k g1 → k = 0 := fun g g1 k h => by
    rcases h with ⟨-, w⟩ | ⟨e', z, -⟩
    · exact w
    · cases z
  by_cases x0 : x < 0
  · exact ⟨th_12 1, fun g k g1 h => ex 1 g g1 k (by rw [eX6_slot, if_pos x0] at h; exact h)⟩
  by_cases x1 : x < 24
  · by_cases y0 : y < 0
    · exact ⟨th_12 2, fun g k g1 h => ex 2 g g1 k (by rw [eX6_slot, if_neg x0, if_pos x1, if_pos y0] at h; exact h)⟩
    by_cases y2 : y ≤ 2
    · refine ⟨0, fun g k g1 h => ?_⟩
      obtain ⟨j, hj, rfl⟩ := nI_of x0
      have hj2 : j < 24 := (nI_ltI (a := j) (b := 24) hj (by omega)).mp x1
      rw [eX6_slot, if_neg x0, if_pos x1, if_neg y0, if_pos y2, eX1_mend, pu_in hj2 (by omega)] at h
      simp only [pu_g, pu_b0, pu_b1, pu_lt'] at h
      by_cases q0 : y = 0
      · rw [if_pos q0] at h
        split at h
        · exact ok _ _ _ h
        · exact ok _ _ _ h
      · rw [if_neg q0] at h
        split at h
        · exact ok _ _ _ h
        · split at h
          · exact ok _ _ _ h
          · exact ok _ _ _ h
    · exact ⟨th_12 2, fun g k g1 h => ex 2 g g1 k (by rw [eX6_slot, if_neg x0, if_pos x1, if_neg y0, if_neg y2] at h; exact h)⟩
  · exact ⟨th_12 1, fun g k g1 h => ex 1 g g1 k (by rw [eX6_slot, if_neg x0, if_neg x1] at h; exact h)⟩
theorem ua_slotE {g : am_S} (x y : Int32) (Q : LQ g) : ∃ g1 g2, la_wV th_12 (vX6_slot x y g) (g2 24 0 0) g1 ∧ vX7_slot x y g1 = some (.inl none, g2) ∧ LQ g2 := by
  obtain ⟨v, hv⟩ := uc_slotk x y
  obtain ⟨gm, Q0⟩ := Q.1
  obtain ⟨k, g1, gm', w, Q1⟩ := uC_V_of (th := th_12) (C := vX6_slot x y) (M := vX7_slot x y) (fun _ _ q => sm_slotO x y q) g gm Q0
  have k1 : kp_eq cK g g1 := by
    rcases w with ⟨e, -⟩ | ⟨_, e, -⟩
    · exact qX6_slot x y g e
    · exact qX6_slot x y g e
  obtain ⟨gc, Q2⟩ := LQ_c Q k1 Q1
  obtain ⟨gc', g2, Q3, m, r⟩ := sm_slotO x y Q2
  have w2 : la_wV th_12 (vX6_slot x y gc) (g2 24 0 0) gc' := r
  have e : g2 24 0 0 = k := (hv _ _ _ w2).trans (hv _ _ _ w).symm
  exact ⟨g1, g2, by rw [e]; exact w, m, LQ_m Q1 (qX7_slot x y _ m) Q3⟩
