/-! instructions -/
def am_b (x : Int32) : Bool := decide (x = 0) || decide (x = 1)
def am_nz (x : Int32) : Bool := decide (¬ x = 0)
def am_nn (x : Int32) : Bool := decide (-1 ≤ x)
def am_nv (x : Int32) : Bool := decide (x < 0) || am_in x 128
def am_ws : List am_v → Nat
  | [] => 0
  | .inr (.inl _) :: t => 2 + am_ws t
  | _ :: t => 1 + am_ws t
def am_bI (r : am_R) (kk : Int32 → am_S → am_R) : am_R := match r with
  | some (.inl (some (.inl x)), g) => kk x g
  | some (.inr e, g) => some (.inr e, g)
  | _ => none
def am_bV (r : am_R) (kk : am_S → am_R) : am_R := match r with
  | some (.inl none, g) => kk g
  | some (.inr e, g) => some (.inr e, g)
  | _ => none
def am_bA (f : Nat) (r : am_R) (kk : Int32 → am_S → am_R) : am_R := match r with
  | some (.inl (some (.inr (.inr q))), g) => am_g (Nat.beq q.1 f) (kk q.2 g)
  | some (.inr e, g) => some (.inr e, g)
  | _ => none
def am_sw (x lo : Int32) (d : Nat) (kk : Nat → am_R) : List Nat → am_R
  | [] => kk d
  | t :: ts => if x = lo then kk t else am_sw x (lo + 1) d kk ts
def am_l1 (K : (am_F → am_R) → am_R) : Prop := (∃ r, ∀ k, K k = r) ∨ (∃ fr', ∀ k, K k = k fr')
theorem am_l1_c (r : am_R) : am_l1 (fun _ => r) := Or.inl ⟨r, fun _ => rfl⟩
theorem am_l1_k (fr : am_F) : am_l1 (fun k => k fr) := Or.inr ⟨fr, fun _ => rfl⟩
theorem am_l1_g {K : (am_F → am_R) → am_R} (b : Bool) (h : am_l1 K) : am_l1 (fun k => am_g b (K k)) := by
  cases b
  · exact am_l1_c none
  · exact h
theorem am_l1_gr {K : (am_F → am_R) → am_R} (f : Nat) (x : Int32) (h : am_l1 K) : am_l1 (fun k => am_gr f x (K k)) := by
  unfold am_gr
  cases Nat.beq (am_ct f) 1
  · exact am_l1_g _ h
  · exact h
theorem am_l1_if {c : Prop} [Decidable c] {K L : (am_F → am_R) → am_R} (h1 : am_l1 K) (h2 : am_l1 L) : am_l1 (fun k => if c then K k else L k) := by
  by_cases h : c
  · simp only [if_pos h]; exact h1
  · simp only [if_neg h]; exact h2
theorem am_l1_bI {r : am_R} {kk : (am_F → am_R) → Int32 → am_S → am_R} (h : ∀ v g, am_l1 (fun k => kk k v g)) : am_l1 (fun k => am_bI r (kk k)) := by
  rcases r with _ | ⟨(_ | v) | e, g⟩
  · exact am_l1_c none
  · exact am_l1_c none
  · rcases v with x | x | q
    · exact h x g
    · exact am_l1_c none
    · exact am_l1_c none
  · exact am_l1_c _
theorem am_l1_bV {r : am_R} {kk : (am_F → am_R) → am_S → am_R} (h : ∀ g, am_l1 (fun k => kk k g)) : am_l1 (fun k => am_bV r (kk k)) := by
  rcases r with _ | ⟨(_ | v) | e, g⟩
  · exact am_l1_c none
  · exact h g
  · exact am_l1_c none
  · exact am_l1_c _
theorem am_l1_bA {f : Nat} {r : am_R} {kk : (am_F → am_R) → Int32 → am_S → am_R} (h : ∀ v g, am_l1 (fun k => kk k v g)) : am_l1 (fun k => am_bA f r (kk k)) := by
  rcases r with _ | ⟨(_ | v) | e, g⟩
  · exact am_l1_c none
  · exact am_l1_c none
  · rcases v with x | x | q
    · exact am_l1_c none
    · exact am_l1_c none
    · exact am_l1_g _ (h _ g)
  · exact am_l1_c _
theorem am_l1_sw {x lo : Int32} {d : Nat} {ts : List Nat} {kk : (am_F → am_R) → Nat → am_R} (h : ∀ t, am_l1 (fun k => kk k t)) : am_l1 (fun k => am_sw x lo d (kk k) ts) := by
  induction ts generalizing lo with
  | nil => exact h d
  | cons t ts ih => exact am_l1_if (h t) ih

def im_il (i n : Nat) : am_I := fun fr k => match fr.2.1[i]? with
  | some (some (.inl x)) => k (fr.1 + n, fr.2.1, .inl x :: fr.2.2.1, fr.2.2.2)
  | _ => none
def im_al (i n : Nat) : am_I := fun fr k => match fr.2.1[i]? with
  | some (some (.inr (.inr q))) => k (fr.1 + n, fr.2.1, .inr (.inr q) :: fr.2.2.1, fr.2.2.2)
  | _ => none
def im_is (i n : Nat) : am_I := fun fr k => match fr.2.2.1 with
  | .inl x :: r => match fr.2.1[i]? with
    | some _ => k (fr.1 + n, fr.2.1.set i (some (.inl x)), r, fr.2.2.2)
    | none => none
  | _ => none
def im_as (i n : Nat) : am_I := fun fr k => match fr.2.2.1 with
  | .inr (.inr q) :: r => match fr.2.1[i]? with
    | some _ => k (fr.1 + n, fr.2.1.set i (some (.inr (.inr q))), r, fr.2.2.2)
    | none => none
  | _ => none
def im_ic (v : Int32) (n : Nat) : am_I := fun fr k => k (fr.1 + n, fr.2.1, .inl v :: fr.2.2.1, fr.2.2.2)
def im_nl : am_I := fun fr k => k (fr.1 + 1, fr.2.1, .inr (.inr (5, -1)) :: fr.2.2.1, fr.2.2.2)
def im_in (i : Nat) (d : Int32) : am_I := fun fr k => match fr.2.1[i]? with
  | some (some (.inl x)) => k (fr.1 + 3, fr.2.1.set i (some (.inl (x + d))), fr.2.2.1, fr.2.2.2)
  | _ => none
def im_go (t : Nat) : am_I := fun fr k => k (t, fr.2.1, fr.2.2.1, fr.2.2.2)
def im_du : am_I := fun fr k => match fr.2.2.1 with
  | .inl x :: r => k (fr.1 + 1, fr.2.1, .inl x :: .inl x :: r, fr.2.2.2)
  | .inr (.inr q) :: r => k (fr.1 + 1, fr.2.1, .inr (.inr q) :: .inr (.inr q) :: r, fr.2.2.2)
  | _ => none
def im_d2 : am_I := fun fr k => match fr.2.2.1 with
  | .inl y :: .inr (.inr q) :: r => k (fr.1 + 1, fr.2.1, .inl y :: .inr (.inr q) :: .inl y :: .inr (.inr q) :: r, fr.2.2.2)
  | _ => none
def im_i2s : am_I := fun fr k => match fr.2.2.1 with
  | .inl x :: r => k (fr.1 + 1, fr.2.1, .inl x.toInt16.toInt32 :: r, fr.2.2.2)
  | _ => none
def im_i2l : am_I := fun fr k => match fr.2.2.1 with
  | .inl x :: r => k (fr.1 + 1, fr.2.1, .inr (.inl x) :: r, fr.2.2.2)
  | _ => none
def im_add : am_I := fun fr k => match fr.2.2.1 with
  | .inl y :: .inl x :: r => k (fr.1 + 1, fr.2.1, .inl (x + y) :: r, fr.2.2.2)
  | _ => none
def im_sub : am_I := fun fr k => match fr.2.2.1 with
  | .inl y :: .inl x :: r => k (fr.1 + 1, fr.2.1, .inl (x - y) :: r, fr.2.2.2)
  | _ => none
def im_mul : am_I := fun fr k => match fr.2.2.1 with
  | .inl y :: .inl x :: r => k (fr.1 + 1, fr.2.1, .inl (x * y) :: r, fr.2.2.2)
  | _ => none
def im_and : am_I := fun fr k => match fr.2.2.1 with
  | .inl y :: .inl x :: r => k (fr.1 + 1, fr.2.1, .inl (x &&& y) :: r, fr.2.2.2)
  | _ => none
def im_shr : am_I := fun fr k => match fr.2.2.1 with
  | .inl y :: .inl x :: r => k (fr.1 + 1, fr.2.1, .inl (x >>> (y &&& 31)) :: r, fr.2.2.2)
  | _ => none
def im_ush : am_I := fun fr k => match fr.2.2.1 with
  | .inl y :: .inl x :: r => k (fr.1 + 1, fr.2.1, .inl ((x.toUInt32 >>> (y.toUInt32 &&& Int32.toUInt32 31)).toInt32) :: r, fr.2.2.2)
  | _ => none
def im_div : am_I := fun fr k => match fr.2.2.1 with
  | .inl y :: .inl x :: r => am_g (am_nz y) (k (fr.1 + 1, fr.2.1, .inl (x / y) :: r, fr.2.2.2))
  | _ => none
def im_rem : am_I := fun fr k => match fr.2.2.1 with
  | .inl y :: .inl x :: r => am_g (am_nz y) (k (fr.1 + 1, fr.2.1, .inl (x - x / y * y) :: r, fr.2.2.2))
  | _ => none
def im_feq (t : Nat) : am_I := fun fr k => match fr.2.2.1 with
  | .inl x :: r => if x = 0 then k (t, fr.2.1, r, fr.2.2.2) else k (fr.1 + 3, fr.2.1, r, fr.2.2.2)
  | _ => none
def im_fne (t : Nat) : am_I := fun fr k => match fr.2.2.1 with
  | .inl x :: r => if x = 0 then k (fr.1 + 3, fr.2.1, r, fr.2.2.2) else k (t, fr.2.1, r, fr.2.2.2)
  | _ => none
def im_flt (t : Nat) : am_I := fun fr k => match fr.2.2.1 with
  | .inl x :: r => if x < 0 then k (t, fr.2.1, r, fr.2.2.2) else k (fr.1 + 3, fr.2.1, r, fr.2.2.2)
  | _ => none
def im_fge (t : Nat) : am_I := fun fr k => match fr.2.2.1 with
  | .inl x :: r => if 0 ≤ x then k (t, fr.2.1, r, fr.2.2.2) else k (fr.1 + 3, fr.2.1, r, fr.2.2.2)
  | _ => none
def im_fgt (t : Nat) : am_I := fun fr k => match fr.2.2.1 with
  | .inl x :: r => if 0 < x then k (t, fr.2.1, r, fr.2.2.2) else k (fr.1 + 3, fr.2.1, r, fr.2.2.2)
  | _ => none
def im_fle (t : Nat) : am_I := fun fr k => match fr.2.2.1 with
  | .inl x :: r => if x ≤ 0 then k (t, fr.2.1, r, fr.2.2.2) else k (fr.1 + 3, fr.2.1, r, fr.2.2.2)
  | _ => none
def im_ceq (t : Nat) : am_I := fun fr k => match fr.2.2.1 with
  | .inl y :: .inl x :: r => if x = y then k (t, fr.2.1, r, fr.2.2.2) else k (fr.1 + 3, fr.2.1, r, fr.2.2.2)
  | _ => none
def im_cne (t : Nat) : am_I := fun fr k => match fr.2.2.1 with
  | .inl y :: .inl x :: r => if x = y then k (fr.1 + 3, fr.2.1, r, fr.2.2.2) else k (t, fr.2.1, r, fr.2.2.2)
  | _ => none
def im_clt (t : Nat) : am_I := fun fr k => match fr.2.2.1 with
  | .inl y :: .inl x :: r => if x < y then k (t, fr.2.1, r, fr.2.2.2) else k (fr.1 + 3, fr.2.1, r, fr.2.2.2)
  | _ => none
def im_cge (t : Nat) : am_I := fun fr k => match fr.2.2.1 with
  | .inl y :: .inl x :: r => if y ≤ x then k (t, fr.2.1, r, fr.2.2.2) else k (fr.1 + 3, fr.2.1, r, fr.2.2.2)
  | _ => none
def im_cgt (t : Nat) : am_I := fun fr k => match fr.2.2.1 with
  | .inl y :: .inl x :: r => if y < x then k (t, fr.2.1, r, fr.2.2.2) else k (fr.1 + 3, fr.2.1, r, fr.2.2.2)
  | _ => none
def im_cle (t : Nat) : am_I := fun fr k => match fr.2.2.1 with
  | .inl y :: .inl x :: r => if x ≤ y then k (t, fr.2.1, r, fr.2.2.2) else k (fr.1 + 3, fr.2.1, r, fr.2.2.2)
  | _ => none
def im_nu (t : Nat) : am_I := fun fr k => match fr.2.2.1 with
  | .inr (.inr q) :: r => am_g (!(Nat.beq (am_ct q.1) 1)) (if q.2 < 0 then k (t, fr.2.1, r, fr.2.2.2) else k (fr.1 + 3, fr.2.1, r, fr.2.2.2))
  | _ => none
def im_nn (t : Nat) : am_I := fun fr k => match fr.2.2.1 with
  | .inr (.inr q) :: r => am_g (!(Nat.beq (am_ct q.1) 1)) (if q.2 < 0 then k (fr.1 + 3, fr.2.1, r, fr.2.2.2) else k (t, fr.2.1, r, fr.2.2.2))
  | _ => none
def im_an (t : Nat) : am_I := fun fr k => match fr.2.2.1 with
  | .inr (.inr q') :: .inr (.inr q) :: r => am_g (Nat.beq q.1 q'.1 && !(Nat.beq (am_ct q.1) 1)) (am_g (am_nn q.2) (am_g (am_nn q'.2) (if q.2 = q'.2 then k (fr.1 + 3, fr.2.1, r, fr.2.2.2) else k (t, fr.2.1, r, fr.2.2.2))))
  | _ => none
def im_ts (lo : Int32) (ts : List Nat) (d : Nat) : am_I := fun fr k => match fr.2.2.1 with
  | .inl x :: r => am_sw x lo d (fun t => k (t, fr.2.1, r, fr.2.2.2)) ts
  | _ => none
def im_gi (f j : Nat) : am_I := fun fr k => match fr.2.2.1 with
  | .inr (.inr q) :: r => am_g (Nat.beq q.1 f) (am_gr f q.2 (k (fr.1 + 3, fr.2.1, .inl (fr.2.2.2 f (am_ix f q.2) j) :: r, fr.2.2.2)))
  | _ => none
def im_gf (f j n : Nat) : am_I := fun fr k => match fr.2.2.1 with
  | .inr (.inr q) :: r => am_g (Nat.beq q.1 f) (am_gr f q.2 (k (fr.1 + 3, fr.2.1, .inr (.inr (n, q.2)) :: r, fr.2.2.2)))
  | _ => none
def im_pi (f j : Nat) : am_I := fun fr k => match fr.2.2.1 with
  | .inl v :: .inr (.inr q) :: r => am_g (Nat.beq q.1 f) (am_gr f q.2 (k (fr.1 + 3, fr.2.1, r, am_up fr.2.2.2 f (am_ix f q.2) j v)))
  | _ => none
def im_pz (f j : Nat) : am_I := fun fr k => match fr.2.2.1 with
  | .inl v :: .inr (.inr q) :: r => am_g (Nat.beq q.1 f) (am_gr f q.2 (am_g (am_b v) (k (fr.1 + 3, fr.2.1, r, am_up fr.2.2.2 f (am_ix f q.2) j v))))
  | _ => none
def im_ia : am_I := fun fr k => match fr.2.2.1 with
  | .inl y :: .inr (.inr q) :: r => am_g (Nat.beq (am_ak q.1) 1) (am_gr q.1 q.2 (am_g (am_in y (am_ln q.1)) (k (fr.1 + 1, fr.2.1, .inl (fr.2.2.2 q.1 (am_ix q.1 q.2) y.toNatClampNeg) :: r, fr.2.2.2))))
  | _ => none
def im_ba : am_I := fun fr k => match fr.2.2.1 with
  | .inl y :: .inr (.inr q) :: r => am_g (Nat.beq (am_ak q.1) 2) (am_gr q.1 q.2 (am_g (am_in y (am_ln q.1)) (k (fr.1 + 1, fr.2.1, .inl (fr.2.2.2 q.1 (am_ix q.1 q.2) y.toNatClampNeg) :: r, fr.2.2.2))))
  | _ => none
def im_aa : am_I := fun fr k => match fr.2.2.1 with
  | .inl y :: .inr (.inr q) :: r => match am_ak q.1 with
    | 3 => am_gr q.1 q.2 (am_g (am_in y (am_ln q.1)) (k (fr.1 + 1, fr.2.1, .inr (.inr (5, fr.2.2.2 q.1 (am_ix q.1 q.2) y.toNatClampNeg)) :: r, fr.2.2.2)))
    | 4 => am_gr q.1 q.2 (am_g (am_in y (am_ln q.1)) (k (fr.1 + 1, fr.2.1, .inr (.inr (am_af q.1, y)) :: r, fr.2.2.2)))
    | _ => none
  | _ => none
def im_la : am_I := fun fr k => match fr.2.2.1 with
  | .inl y :: .inr (.inr q) :: r => am_g (Nat.beq (am_ak q.1) 6) (am_gr q.1 q.2 (am_g (am_in y (am_ln q.1)) (k (fr.1 + 1, fr.2.1, .inr (.inl (fr.2.2.2 q.1 (am_ix q.1 q.2) y.toNatClampNeg)) :: r, fr.2.2.2))))
  | _ => none
def im_si : am_I := fun fr k => match fr.2.2.1 with
  | .inl v :: .inl y :: .inr (.inr q) :: r => am_g (Nat.beq (am_ak q.1) 1) (am_gr q.1 q.2 (am_g (am_in y (am_ln q.1)) (k (fr.1 + 1, fr.2.1, r, am_up fr.2.2.2 q.1 (am_ix q.1 q.2) y.toNatClampNeg v))))
  | _ => none
def im_sb : am_I := fun fr k => match fr.2.2.1 with
  | .inl v :: .inl y :: .inr (.inr q) :: r => am_g (Nat.beq (am_ak q.1) 2) (am_gr q.1 q.2 (am_g (am_in y (am_ln q.1)) (am_g (am_b v) (k (fr.1 + 1, fr.2.1, r, am_up fr.2.2.2 q.1 (am_ix q.1 q.2) y.toNatClampNeg v)))))
  | _ => none
def im_sl : am_I := fun fr k => match fr.2.2.1 with
  | .inr (.inl v) :: .inl y :: .inr (.inr q) :: r => am_g (Nat.beq (am_ak q.1) 6) (am_gr q.1 q.2 (am_g (am_in y (am_ln q.1)) (k (fr.1 + 1, fr.2.1, r, am_up fr.2.2.2 q.1 (am_ix q.1 q.2) y.toNatClampNeg v))))
  | _ => none
def im_sa : am_I := fun fr k => match fr.2.2.1 with
  | .inr (.inr v) :: .inl y :: .inr (.inr q) :: r => am_g (Nat.beq v.1 5 && Nat.beq (am_ak q.1) 3) (am_gr q.1 q.2 (am_g (am_in y (am_ln q.1)) (am_g (am_nv v.2) (k (fr.1 + 1, fr.2.1, r, am_up fr.2.2.2 q.1 (am_ix q.1 q.2) y.toNatClampNeg v.2)))))
  | _ => none
def im_le : am_I := fun fr k => match fr.2.2.1 with
  | .inr (.inr q) :: r => am_g (Nat.ble 1 (am_ak q.1) && Nat.ble (am_ak q.1) 6) (am_gr q.1 q.2 (k (fr.1 + 1, fr.2.1, .inl (Int32.ofNat (am_ln q.1)) :: r, fr.2.2.2)))
  | _ => none
def im_ri : am_I := fun fr _ => match fr.2.2.1 with
  | [.inl x] => some (.inl (some (.inl x)), fr.2.2.2)
  | _ => none
def im_rz : am_I := fun fr _ => match fr.2.2.1 with
  | [.inl x] => am_g (am_b x) (some (.inl (some (.inl x)), fr.2.2.2))
  | _ => none
def im_ra : am_I := fun fr _ => match fr.2.2.1 with
  | [.inr (.inr q)] => some (.inl (some (.inr (.inr q))), fr.2.2.2)
  | _ => none
def im_rv : am_I := fun fr _ => match fr.2.2.1 with
  | [] => some (.inl none, fr.2.2.2)
  | _ => none
def im_th (e : Nat) : am_I := fun fr _ => match Nat.ble (am_ws fr.2.2.1) 8 with
  | true => some (.inr e, fr.2.2.2)
  | false => none
def im_vI (f n : Nat) (F : am_C) : am_I := fun fr k => match fr.2.2.1.drop n with
  | .inr (.inr q) :: r => am_g (Nat.beq q.1 f && (Nat.ble (am_ws r) 8 && Nat.beq (fr.2.2.1.take n).length n)) (am_gr f q.2 (am_bI (F (.inr (.inr (f, q.2)) :: (fr.2.2.1.take n).reverse) fr.2.2.2) (fun v g => k (fr.1 + 3, fr.2.1, .inl v :: r, g))))
  | _ => none
def im_vV (f n : Nat) (F : am_C) : am_I := fun fr k => match fr.2.2.1.drop n with
  | .inr (.inr q) :: r => am_g (Nat.beq q.1 f && (Nat.ble (am_ws r) 8 && Nat.beq (fr.2.2.1.take n).length n)) (am_gr f q.2 (am_bV (F (.inr (.inr (f, q.2)) :: (fr.2.2.1.take n).reverse) fr.2.2.2) (fun g => k (fr.1 + 3, fr.2.1, r, g))))
  | _ => none
def im_vA (h : Nat) (f n : Nat) (F : am_C) : am_I := fun fr k => match fr.2.2.1.drop n with
  | .inr (.inr q) :: r => am_g (Nat.beq q.1 f && (Nat.ble (am_ws r) 8 && Nat.beq (fr.2.2.1.take n).length n)) (am_gr f q.2 (am_bA h (F (.inr (.inr (f, q.2)) :: (fr.2.2.1.take n).reverse) fr.2.2.2) (fun v g => k (fr.1 + 3, fr.2.1, .inr (.inr (h, v)) :: r, g))))
  | _ => none
def im_sI (n : Nat) (F : am_C) : am_I := fun fr k => am_g (Nat.ble (am_ws (fr.2.2.1.drop n)) 8 && Nat.beq (fr.2.2.1.take n).length n) (am_bI (F (fr.2.2.1.take n).reverse fr.2.2.2) (fun v g => k (fr.1 + 3, fr.2.1, .inl v :: fr.2.2.1.drop n, g)))
theorem ln_il (i n : Nat) : am_lin (im_il i n) := by
  intro fr
  show am_l1 _
  unfold im_il
  rcases fr.2.1[i]? with _ | _ | x | x | x <;> first | exact am_l1_c _ | exact am_l1_k _
theorem ln_al (i n : Nat) : am_lin (im_al i n) := by
  intro fr
  show am_l1 _
  unfold im_al
  rcases fr.2.1[i]? with _ | _ | x | x | x <;> first | exact am_l1_c _ | exact am_l1_k _
theorem ln_in (i : Nat) (d : Int32) : am_lin (im_in i d) := by
  intro fr
  show am_l1 _
  unfold im_in
  rcases fr.2.1[i]? with _ | _ | x | x | x <;> first | exact am_l1_c _ | exact am_l1_k _
theorem ln_is (i n : Nat) : am_lin (im_is i n) := by
  intro fr
  show am_l1 _
  unfold im_is
  rcases fr.2.2.1 with _ | ⟨x | x | x, r⟩ <;> first | exact am_l1_c _ | (rcases fr.2.1[i]? with _ | y <;> first | exact am_l1_c _ | exact am_l1_k _)
theorem ln_as (i n : Nat) : am_lin (im_as i n) := by
  intro fr
  show am_l1 _
  unfold im_as
  rcases fr.2.2.1 with _ | ⟨x | x | x, r⟩ <;> first | exact am_l1_c _ | (rcases fr.2.1[i]? with _ | y <;> first | exact am_l1_c _ | exact am_l1_k _)
theorem ln_ic (v : Int32) (n : Nat) : am_lin (im_ic v n) := by
  intro fr
  show am_l1 _
  exact am_l1_k _
theorem ln_nl : am_lin (im_nl) := by
  intro fr
  show am_l1 _
  exact am_l1_k _
theorem ln_go (t : Nat) : am_lin (im_go t) := by
  intro fr
  show am_l1 _
  exact am_l1_k _
theorem ln_du : am_lin (im_du) := by
  intro fr
  show am_l1 _
  unfold im_du
  rcases fr.2.2.1 with _ | ⟨x | x | x, r⟩ <;> first | exact am_l1_c _ | exact am_l1_k _
theorem ln_i2s : am_lin (im_i2s) := by
  intro fr
  show am_l1 _
  unfold im_i2s
  rcases fr.2.2.1 with _ | ⟨x | x | x, r⟩ <;> first | exact am_l1_c _ | exact am_l1_k _
theorem ln_i2l : am_lin (im_i2l) := by
  intro fr
  show am_l1 _
  unfold im_i2l
  rcases fr.2.2.1 with _ | ⟨x | x | x, r⟩ <;> first | exact am_l1_c _ | exact am_l1_k _
theorem ln_d2 : am_lin (im_d2) := by
  intro fr
  show am_l1 _
  unfold im_d2
  rcases fr.2.2.1 with _ | ⟨x | x | x, _ | ⟨y | y | y, r⟩⟩ <;> first | exact am_l1_c _ | exact am_l1_k _
theorem ln_add : am_lin (im_add) := by
  intro fr
  show am_l1 _
  unfold im_add
  rcases fr.2.2.1 with _ | ⟨x | x | x, _ | ⟨y | y | y, r⟩⟩ <;> first | exact am_l1_c _ | exact am_l1_k _
theorem ln_sub : am_lin (im_sub) := by
  intro fr
  show am_l1 _
  unfold im_sub
  rcases fr.2.2.1 with _ | ⟨x | x | x, _ | ⟨y | y | y, r⟩⟩ <;> first | exact am_l1_c _ | exact am_l1_k _
theorem ln_mul : am_lin (im_mul) := by
  intro fr
  show am_l1 _
  unfold im_mul
  rcases fr.2.2.1 with _ | ⟨x | x | x, _ | ⟨y | y | y, r⟩⟩ <;> first | exact am_l1_c _ | exact am_l1_k _
theorem ln_and : am_lin (im_and) := by
  intro fr
  show am_l1 _
  unfold im_and
  rcases fr.2.2.1 with _ | ⟨x | x | x, _ | ⟨y | y | y, r⟩⟩ <;> first | exact am_l1_c _ | exact am_l1_k _
theorem ln_shr : am_lin (im_shr) := by
  intro fr
  show am_l1 _
  unfold im_shr
  rcases fr.2.2.1 with _ | ⟨x | x | x, _ | ⟨y | y | y, r⟩⟩ <;> first | exact am_l1_c _ | exact am_l1_k _
theorem ln_ush : am_lin (im_ush) := by
  intro fr
  show am_l1 _
  unfold im_ush
  rcases fr.2.2.1 with _ | ⟨x | x | x, _ | ⟨y | y | y, r⟩⟩ <;> first | exact am_l1_c _ | exact am_l1_k _
theorem ln_div : am_lin (im_div) := by
  intro fr
  show am_l1 _
  unfold im_div
  rcases fr.2.2.1 with _ | ⟨x | x | x, _ | ⟨y | y | y, r⟩⟩ <;> first | exact am_l1_c _ | exact am_l1_g _ (am_l1_k _)
theorem ln_rem : am_lin (im_rem) := by
  intro fr
  show am_l1 _
  unfold im_rem
  rcases fr.2.2.1 with _ | ⟨x | x | x, _ | ⟨y | y | y, r⟩⟩ <;> first | exact am_l1_c _ | exact am_l1_g _ (am_l1_k _)
theorem ln_feq (t : Nat) : am_lin (im_feq t) := by
  intro fr
  show am_l1 _
  unfold im_feq
  rcases fr.2.2.1 with _ | ⟨x | x | x, r⟩ <;> first | exact am_l1_c _ | exact am_l1_if (am_l1_k _) (am_l1_k _)
theorem ln_fne (t : Nat) : am_lin (im_fne t) := by
  intro fr
  show am_l1 _
  unfold im_fne
  rcases fr.2.2.1 with _ | ⟨x | x | x, r⟩ <;> first | exact am_l1_c _ | exact am_l1_if (am_l1_k _) (am_l1_k _)
theorem ln_flt (t : Nat) : am_lin (im_flt t) := by
  intro fr
  show am_l1 _
  unfold im_flt
  rcases fr.2.2.1 with _ | ⟨x | x | x, r⟩ <;> first | exact am_l1_c _ | exact am_l1_if (am_l1_k _) (am_l1_k _)
theorem ln_fge (t : Nat) : am_lin (im_fge t) := by
  intro fr
  show am_l1 _
  unfold im_fge
  rcases fr.2.2.1 with _ | ⟨x | x | x, r⟩ <;> first | exact am_l1_c _ | exact am_l1_if (am_l1_k _) (am_l1_k _)
theorem ln_fgt (t : Nat) : am_lin (im_fgt t) := by
  intro fr
  show am_l1 _
  unfold im_fgt
  rcases fr.2.2.1 with _ | ⟨x | x | x, r⟩ <;> first | exact am_l1_c _ | exact am_l1_if (am_l1_k _) (am_l1_k _)
theorem ln_fle (t : Nat) : am_lin (im_fle t) := by
  intro fr
  show am_l1 _
  unfold im_fle
  rcases fr.2.2.1 with _ | ⟨x | x | x, r⟩ <;> first | exact am_l1_c _ | exact am_l1_if (am_l1_k _) (am_l1_k _)
theorem ln_ceq (t : Nat) : am_lin (im_ceq t) := by
  intro fr
  show am_l1 _
  unfold im_ceq
  rcases fr.2.2.1 with _ | ⟨x | x | x, _ | ⟨y | y | y, r⟩⟩ <;> first | exact am_l1_c _ | exact am_l1_if (am_l1_k _) (am_l1_k _)
theorem ln_cne (t : Nat) : am_lin (im_cne t) := by
  intro fr
  show am_l1 _
  unfold im_cne
  rcases fr.2.2.1 with _ | ⟨x | x | x, _ | ⟨y | y | y, r⟩⟩ <;> first | exact am_l1_c _ | exact am_l1_if (am_l1_k _) (am_l1_k _)
theorem ln_clt (t : Nat) : am_lin (im_clt t) := by
  intro fr
  show am_l1 _
  unfold im_clt
  rcases fr.2.2.1 with _ | ⟨x | x | x, _ | ⟨y | y | y, r⟩⟩ <;> first | exact am_l1_c _ | exact am_l1_if (am_l1_k _) (am_l1_k _)
theorem ln_cge (t : Nat) : am_lin (im_cge t) := by
  intro fr
  show am_l1 _
  unfold im_cge
  rcases fr.2.2.1 with _ | ⟨x | x | x, _ | ⟨y | y | y, r⟩⟩ <;> first | exact am_l1_c _ | exact am_l1_if (am_l1_k _) (am_l1_k _)
theorem ln_cgt (t : Nat) : am_lin (im_cgt t) := by
  intro fr
  show am_l1 _
  unfold im_cgt
  rcases fr.2.2.1 with _ | ⟨x | x | x, _ | ⟨y | y | y, r⟩⟩ <;> first | exact am_l1_c _ | exact am_l1_if (am_l1_k _) (am_l1_k _)
theorem ln_cle (t : Nat) : am_lin (im_cle t) := by
  intro fr
  show am_l1 _
  unfold im_cle
  rcases fr.2.2.1 with _ | ⟨x | x | x, _ | ⟨y | y | y, r⟩⟩ <;> first | exact am_l1_c _ | exact am_l1_if (am_l1_k _) (am_l1_k _)
theorem ln_nu (t : Nat) : am_lin (im_nu t) := by
  intro fr
  show am_l1 _
  unfold im_nu
  rcases fr.2.2.1 with _ | ⟨x | x | x, r⟩ <;> first | exact am_l1_c _ | exact am_l1_g _ (am_l1_if (am_l1_k _) (am_l1_k _))
theorem ln_nn (t : Nat) : am_lin (im_nn t) := by
  intro fr
  show am_l1 _
  unfold im_nn
  rcases fr.2.2.1 with _ | ⟨x | x | x, r⟩ <;> first | exact am_l1_c _ | exact am_l1_g _ (am_l1_if (am_l1_k _) (am_l1_k _))
theorem ln_an (t : Nat) : am_lin (im_an t) := by
  intro fr
  show am_l1 _
  unfold im_an
  rcases fr.2.2.1 with _ | ⟨x | x | x, _ | ⟨y | y | y, r⟩⟩ <;> first | exact am_l1_c _ | exact am_l1_g _ (am_l1_g _ (am_l1_g _ (am_l1_if (am_l1_k _) (am_l1_k _))))
theorem ln_ts (lo : Int32) (ts : List Nat) (d : Nat) : am_lin (im_ts lo ts d) := by
  intro fr
  show am_l1 _
  unfold im_ts
  rcases fr.2.2.1 with _ | ⟨x | x | x, r⟩ <;> first | exact am_l1_c _ | exact am_l1_sw (fun _ => am_l1_k _)
theorem ln_gi (f j : Nat) : am_lin (im_gi f j) := by
  intro fr
  show am_l1 _
  unfold im_gi
  rcases fr.2.2.1 with _ | ⟨x | x | x, r⟩ <;> first | exact am_l1_c _ | exact am_l1_g _ (am_l1_gr _ _ (am_l1_k _))
theorem ln_gf (f j n : Nat) : am_lin (im_gf f j n) := by
  intro fr
  show am_l1 _
  unfold im_gf
  rcases fr.2.2.1 with _ | ⟨x | x | x, r⟩ <;> first | exact am_l1_c _ | exact am_l1_g _ (am_l1_gr _ _ (am_l1_k _))
theorem ln_pi (f j : Nat) : am_lin (im_pi f j) := by
  intro fr
  show am_l1 _
  unfold im_pi
  rcases fr.2.2.1 with _ | ⟨x | x | x, _ | ⟨y | y | y, r⟩⟩ <;> first | exact am_l1_c _ | exact am_l1_g _ (am_l1_gr _ _ (am_l1_k _))
theorem ln_pz (f j : Nat) : am_lin (im_pz f j) := by
  intro fr
  show am_l1 _
  unfold im_pz
  rcases fr.2.2.1 with _ | ⟨x | x | x, _ | ⟨y | y | y, r⟩⟩ <;> first | exact am_l1_c _ | exact am_l1_g _ (am_l1_gr _ _ (am_l1_g _ (am_l1_k _)))
theorem ln_ia : am_lin (im_ia) := by
  intro fr
  show am_l1 _
  unfold im_ia
  rcases fr.2.2.1 with _ | ⟨x | x | x, _ | ⟨y | y | y, r⟩⟩ <;> first | exact am_l1_c _ | exact am_l1_g _ (am_l1_gr _ _ (am_l1_g _ (am_l1_k _)))
theorem ln_ba : am_lin (im_ba) := by
  intro fr
  show am_l1 _
  unfold im_ba
  rcases fr.2.2.1 with _ | ⟨x | x | x, _ | ⟨y | y | y, r⟩⟩ <;> first | exact am_l1_c _ | exact am_l1_g _ (am_l1_gr _ _ (am_l1_g _ (am_l1_k _)))
theorem ln_la : am_lin (im_la) := by
  intro fr
  show am_l1 _
  unfold im_la
  rcases fr.2.2.1 with _ | ⟨x | x | x, _ | ⟨y | y | y, r⟩⟩ <;> first | exact am_l1_c _ | exact am_l1_g _ (am_l1_gr _ _ (am_l1_g _ (am_l1_k _)))
theorem ln_aa : am_lin (im_aa) := by
  intro fr
  show am_l1 _
  unfold im_aa
  rcases fr.2.2.1 with _ | ⟨x | x | x, _ | ⟨y | y | y, r⟩⟩ <;> try exact am_l1_c _
  dsimp only
  by_cases h3 : am_ak y.1 = 3
  · simp only [h3]; exact am_l1_gr _ _ (am_l1_g _ (am_l1_k _))
  · by_cases h4 : am_ak y.1 = 4
    · simp only [h4]; exact am_l1_gr _ _ (am_l1_g _ (am_l1_k _))
    · have e : ∀ (a b : am_R), (match am_ak y.1 with | 3 => a | 4 => b | _ => none) = none := fun a b => by split <;> first | rfl | contradiction
      simp only [e]; exact am_l1_c _
theorem ln_si : am_lin (im_si) := by
  intro fr
  show am_l1 _
  unfold im_si
  rcases fr.2.2.1 with _ | ⟨x | x | x, _ | ⟨y | y | y, _ | ⟨z | z | z, r⟩⟩⟩ <;> first | exact am_l1_c _ | exact am_l1_g _ (am_l1_gr _ _ (am_l1_g _ (am_l1_k _)))
theorem ln_sl : am_lin (im_sl) := by
  intro fr
  show am_l1 _
  unfold im_sl
  rcases fr.2.2.1 with _ | ⟨x | x | x, _ | ⟨y | y | y, _ | ⟨z | z | z, r⟩⟩⟩ <;> first | exact am_l1_c _ | exact am_l1_g _ (am_l1_gr _ _ (am_l1_g _ (am_l1_k _)))
theorem ln_sb : am_lin (im_sb) := by
  intro fr
  show am_l1 _
  unfold im_sb
  rcases fr.2.2.1 with _ | ⟨x | x | x, _ | ⟨y | y | y, _ | ⟨z | z | z, r⟩⟩⟩ <;> first | exact am_l1_c _ | exact am_l1_g _ (am_l1_gr _ _ (am_l1_g _ (am_l1_g _ (am_l1_k _))))
theorem ln_sa : am_lin (im_sa) := by
  intro fr
  show am_l1 _
  unfold im_sa
  rcases fr.2.2.1 with _ | ⟨x | x | x, _ | ⟨y | y | y, _ | ⟨z | z | z, r⟩⟩⟩ <;> first | exact am_l1_c _ | exact am_l1_g _ (am_l1_gr _ _ (am_l1_g _ (am_l1_g _ (am_l1_k _))))
theorem ln_le : am_lin (im_le) := by
  intro fr
  show am_l1 _
  unfold im_le
  rcases fr.2.2.1 with _ | ⟨x | x | x, r⟩ <;> first | exact am_l1_c _ | exact am_l1_g _ (am_l1_gr _ _ (am_l1_k _))
theorem ln_ri : am_lin (im_ri) := by
  intro fr
  show am_l1 _
  exact am_l1_c _
theorem ln_rz : am_lin (im_rz) := by
  intro fr
  show am_l1 _
  exact am_l1_c _
theorem ln_ra : am_lin (im_ra) := by
  intro fr
  show am_l1 _
  exact am_l1_c _
theorem ln_rv : am_lin (im_rv) := by
  intro fr
  show am_l1 _
  exact am_l1_c _
theorem ln_th (e : Nat) : am_lin (im_th e) := by
  intro fr
  show am_l1 _
  exact am_l1_c _
theorem ln_vI (f n : Nat) (F : am_C) : am_lin (im_vI f n F) := by
  intro fr
  show am_l1 _
  unfold im_vI
  rcases fr.2.2.1.drop n with _ | ⟨x | x | x, r⟩ <;> first | exact am_l1_c _ | exact am_l1_g _ (am_l1_gr _ _ (am_l1_bI (fun _ _ => am_l1_k _)))
theorem ln_vV (f n : Nat) (F : am_C) : am_lin (im_vV f n F) := by
  intro fr
  show am_l1 _
  unfold im_vV
  rcases fr.2.2.1.drop n with _ | ⟨x | x | x, r⟩ <;> first | exact am_l1_c _ | exact am_l1_g _ (am_l1_gr _ _ (am_l1_bV (fun _ => am_l1_k _)))
theorem ln_vA (h : Nat) (f n : Nat) (F : am_C) : am_lin (im_vA h f n F) := by
  intro fr
  show am_l1 _
  unfold im_vA
  rcases fr.2.2.1.drop n with _ | ⟨x | x | x, r⟩ <;> first | exact am_l1_c _ | exact am_l1_g _ (am_l1_gr _ _ (am_l1_bA (fun _ _ => am_l1_k _)))
theorem ln_sI (n : Nat) (F : am_C) : am_lin (im_sI n F) := by
  intro fr
  show am_l1 _
  exact am_l1_g _ (am_l1_bI (fun _ _ => am_l1_k _))
