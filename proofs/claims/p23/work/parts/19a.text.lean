
/-! what a text tells, by the document's words: a figure, a part's fault, the line -/
def TxOk (F : Nat → Int32) : Prop := ∀ j : Nat, 0 ≤ (F j).toInt ∧ (F j).toInt ≤ 255
theorem txOk_upd {F : Nat → Int32} {k : Nat} {x : Int32} (h : TxOk F) (h0 : 0 ≤ x.toInt) (h1 : x.toInt ≤ 255) : TxOk (upd F k x) := by
  intro j
  by_cases q : j = k
  · subst q
    rw [pk_us]; exact ⟨h0, h1⟩
  · rw [pk_un q]; exact h j
def dg (F : Nat → Int32) (p : Int) : Int := (F p.toNat).toInt - 48
def fitP (F : Nat → Int32) (p a z k : Int) : Prop := 0 ≤ dg F (p + k) ∧ dg F (p + k) ≤ 9 ∧ (z = 4 → k = 3 → dg F (p + k) ≤ 3) ∧ (z ≠ 4 → k = 3 → dg F (p + k) ≠ dg F (p + 2)) ∧ (z ≠ 4 → k = 5 → dg F (p + k) < a)
noncomputable def pf (F : Nat → Int32) (n p a z : Int) : Nat → Int → Int
  | 0, _ => -9
  | m + 1, k => @ite _ (z ≤ k) (Classical.propDecidable _) (-9) (@ite _ (n ≤ p + k) (Classical.propDecidable _) n (@ite _ (fitP F p a z k) (Classical.propDecidable _) (pf F n p a z m (k + 1)) (p + k)))
section PFS
variable {F : Nat → Int32} {n p a z k T : Int}
theorem pf_fuel (h6 : k ≤ 6) : (7 - k).toNat = (7 - (k + 1)).toNat + 1 := by omega
theorem pf_isEnd (h : pf F n p a z (7 - k).toNat k = T) (h6 : k ≤ 6) (h1 : z ≤ k) : T = -9 := by
  rw [← h, pf_fuel h6]
  show @ite _ (z ≤ k) (Classical.propDecidable _) _ _ = _
  rw [if_pos h1]
theorem pf_isOut (h : pf F n p a z (7 - k).toNat k = T) (h6 : k ≤ 6) (h1 : k < z) (h2 : n ≤ p + k) : T = n := by
  rw [← h, pf_fuel h6]
  show @ite _ (z ≤ k) (Classical.propDecidable _) _ _ = _
  rw [if_neg (by omega), if_pos h2]
theorem pf_isBad (h : pf F n p a z (7 - k).toNat k = T) (h6 : k ≤ 6) (h1 : k < z) (h2 : p + k < n) (h3 : ¬ fitP F p a z k) : T = p + k := by
  rw [← h, pf_fuel h6]
  show @ite _ (z ≤ k) (Classical.propDecidable _) _ _ = _
  rw [if_neg (by omega), if_neg (by omega), if_neg h3]
theorem pf_step (h : pf F n p a z (7 - k).toNat k = T) (h6 : k ≤ 6) (h1 : k < z) (h2 : p + k < n) (h3 : fitP F p a z k) {k' : Int} (hk : k' = k + 1) : pf F n p a z (7 - k').toNat k' = T := by
  rw [← h, pf_fuel h6, hk]
  show _ = @ite _ (z ≤ k) (Classical.propDecidable _) _ _
  rw [if_neg (by omega), if_neg (by omega), if_pos h3]
end PFS
/-- the answer, and how many people and tickets stand ahead of it -/
noncomputable def prs (F : Nat → Int32) (n : Int) : Nat → Int → Int → Int → Int × Int × Int
  | 0, _, a, t => (-9, a, t)
  | m + 1, p, a, t => @ite _ (n ≤ p) (Classical.propDecidable _) (-9, a, t) (@ite _ ((F p.toNat).toInt = 80 ∧ a < 5) (Classical.propDecidable _) (@ite _ (pf F n p a 4 6 1 = -9) (Classical.propDecidable _) (prs F n m (p + 4) (a + 1) t) (pf F n p a 4 6 1, a, t)) (@ite _ ((F p.toNat).toInt = 84 ∧ t < 6 ∧ 0 < a) (Classical.propDecidable _) (@ite _ (pf F n p a 6 6 1 = -9) (Classical.propDecidable _) (prs F n m (p + 6) a (t + 1)) (pf F n p a 6 6 1, a, t)) (p, a, t)))
noncomputable def flt (F : Nat → Int32) (n : Int) : Int × Int × Int := @ite _ (n < 1 ∨ (F 0).toInt ≠ 76) (Classical.propDecidable _) (0, 0, 0) (prs F n 12 1 0 0)
theorem flt_no {F : Nat → Int32} {n : Int} (h : n < 1 ∨ (F 0).toInt ≠ 76) : flt F n = (0, 0, 0) := by
  unfold flt; rw [if_pos h]
theorem flt_yes {F : Nat → Int32} {n : Int} (h1 : 1 ≤ n) (h2 : (F 0).toInt = 76) : flt F n = prs F n 12 1 0 0 := by
  unfold flt; rw [if_neg (by omega)]
section PRS
variable {F : Nat → Int32} {n p a t : Int} {T : Int × Int × Int}
theorem prs_fuel (ha : a ≤ 5) (ht : t ≤ 6) : (12 - a - t).toNat = (11 - a - t).toNat + 1 := by omega
theorem prs_end (h : prs F n (12 - a - t).toNat p a t = T) (ha : a ≤ 5) (ht : t ≤ 6) (h1 : n ≤ p) : T = (-9, a, t) := by
  rw [← h, prs_fuel ha ht]
  show @ite _ (n ≤ p) (Classical.propDecidable _) _ _ = _
  rw [if_pos h1]
theorem prs_none (h : prs F n (12 - a - t).toNat p a t = T) (ha : a ≤ 5) (ht : t ≤ 6) (h1 : p < n) (h2 : (F p.toNat).toInt ≠ 80 ∨ 5 ≤ a) (h3 : (F p.toNat).toInt ≠ 84 ∨ 6 ≤ t ∨ a ≤ 0) : T = (p, a, t) := by
  rw [← h, prs_fuel ha ht]
  show @ite _ (n ≤ p) (Classical.propDecidable _) _ _ = _
  rw [if_neg (by omega), if_neg (by omega), if_neg (by omega)]
theorem prs_Pok (h : prs F n (12 - a - t).toNat p a t = T) (ha : a < 5) (ht : t ≤ 6) (h1 : p < n) (h2 : (F p.toNat).toInt = 80) (h3 : pf F n p a 4 6 1 = -9) {p' a' : Int} (hp : p' = p + 4) (ha' : a' = a + 1) : prs F n (12 - a' - t).toNat p' a' t = T := by
  rw [← h, prs_fuel (a := a) (t := t) (by omega) ht, hp, ha', show (12 - (a + 1) - t).toNat = (11 - a - t).toNat by omega]
  show _ = @ite _ (n ≤ p) (Classical.propDecidable _) _ _
  rw [if_neg (by omega), if_pos ⟨h2, ha⟩, if_pos h3]
theorem prs_Pbad (h : prs F n (12 - a - t).toNat p a t = T) (ha : a < 5) (ht : t ≤ 6) (h1 : p < n) (h2 : (F p.toNat).toInt = 80) (h3 : pf F n p a 4 6 1 ≠ -9) : T = (pf F n p a 4 6 1, a, t) := by
  rw [← h, prs_fuel (by omega) ht]
  show @ite _ (n ≤ p) (Classical.propDecidable _) _ _ = _
  rw [if_neg (by omega), if_pos ⟨h2, ha⟩, if_neg h3]
theorem prs_Tok (h : prs F n (12 - a - t).toNat p a t = T) (ha : a ≤ 5) (ha0 : 0 < a) (ht : t < 6) (h1 : p < n) (h2 : (F p.toNat).toInt = 84) (h3 : pf F n p a 6 6 1 = -9) {p' t' : Int} (hp : p' = p + 6) (ht' : t' = t + 1) : prs F n (12 - a - t').toNat p' a t' = T := by
  rw [← h, prs_fuel (a := a) (t := t) (by omega) (by omega), hp, ht', show (12 - a - (t + 1)).toNat = (11 - a - t).toNat by omega]
  show _ = @ite _ (n ≤ p) (Classical.propDecidable _) _ _
  rw [if_neg (by omega), if_neg (by omega), if_pos ⟨h2, ht, ha0⟩, if_pos h3]
theorem prs_Tbad (h : prs F n (12 - a - t).toNat p a t = T) (ha : a ≤ 5) (ha0 : 0 < a) (ht : t < 6) (h1 : p < n) (h2 : (F p.toNat).toInt = 84) (h3 : pf F n p a 6 6 1 ≠ -9) : T = (pf F n p a 6 6 1, a, t) := by
  rw [← h, prs_fuel (by omega) (by omega)]
  show @ite _ (n ≤ p) (Classical.propDecidable _) _ _ = _
  rw [if_neg (by omega), if_neg (by omega), if_pos ⟨h2, ht, ha0⟩, if_neg h3]
end PRS
/-- what the reference's 'figure' does -/
def figP (F : Nat → Int32) (n u f most nt u1 f1 r : Int) : Prop :=
  (f ≠ -9 ∧ u1 = u ∧ f1 = f ∧ r = 0) ∨ (f = -9 ∧ n ≤ u ∧ u1 = u ∧ f1 = u ∧ r = 0) ∨ (f = -9 ∧ u < n ∧ (dg F u < 0 ∨ most < dg F u ∨ dg F u = nt) ∧ u1 = u ∧ f1 = u ∧ r = 0) ∨ (f = -9 ∧ u < n ∧ 0 ≤ dg F u ∧ dg F u ≤ most ∧ dg F u ≠ nt ∧ u1 = u + 1 ∧ f1 = -9 ∧ r = dg F u)
/-- a part read up to its k-th figure, T its fault -/
def PS (F : Nat → Int32) (n p a z k u f T : Int) : Prop := (f = -9 ∧ u = p + k ∧ p + k ≤ n ∧ pf F n p a z (7 - k).toNat k = T) ∨ (f ≠ -9 ∧ f = T)
theorem PS_step {F : Nat → Int32} {n p a z k u f T most nt u1 f1 r : Int} (h : PS F n p a z k u f T) (hp : 0 ≤ p) (hk : 1 ≤ k) (h5 : k ≤ 5) (hz : k < z) (hfit : f = -9 → (fitP F p a z k ↔ (0 ≤ dg F (p + k) ∧ dg F (p + k) ≤ most ∧ dg F (p + k) ≠ nt))) (hg : figP F n u f most nt u1 f1 r) {k' : Int} (hk' : k' = k + 1) : PS F n p a z k' u1 f1 T ∧ (f1 = -9 → r = dg F (p + k)) := by
  rcases h with ⟨h1, h2, h3, h4⟩ | ⟨h1, h2⟩
  · have hf := hfit h1
    rcases hg with g | g | g | g
    · exact absurd h1 g.1
    · have hT := pf_isOut h4 (by omega) hz (by omega)
      exact ⟨Or.inr ⟨by omega, by omega⟩, fun q => absurd q (by omega)⟩
    · obtain ⟨g1, g2, g3, g4, g5, g6⟩ := g
      subst h2
      have hn : ¬ fitP F p a z k := by
        rw [hf]; omega
      have hT := pf_isBad h4 (by omega) hz (by omega) hn
      exact ⟨Or.inr ⟨by omega, by omega⟩, fun q => absurd q (by omega)⟩
    · obtain ⟨g1, g2, g3, g4, g5, g6, g7, g8⟩ := g
      subst h2
      have hn : fitP F p a z k := by
        rw [hf]; exact ⟨g3, g4, g5⟩
      have hT := pf_step h4 (by omega) hz (by omega) hn hk'
      exact ⟨Or.inl ⟨g7, by omega, by omega, hT⟩, fun _ => g8⟩
  · rcases hg with g | g | g | g
    · exact ⟨Or.inr ⟨by omega, by omega⟩, fun q => absurd q (by omega)⟩
    · exact absurd g.1 h1
    · exact absurd g.1 h1
    · exact absurd g.1 h1
theorem PS_fin {F : Nat → Int32} {n p a z u f T : Int} (h : PS F n p a z z u f T) (h6 : z ≤ 6) : f = T ∧ (f = -9 → u = p + z) := by
  rcases h with ⟨h1, h2, h3, h4⟩ | ⟨h1, h2⟩
  · have hT := pf_isEnd h4 h6 (Int.le_refl _)
    exact ⟨by omega, fun _ => h2⟩
  · exact ⟨h2, fun q => absurd q h1⟩
theorem fit4 {F : Nat → Int32} {p a k : Int} (hk : k ≠ 3) : fitP F p a 4 k ↔ (0 ≤ dg F (p + k) ∧ dg F (p + k) ≤ 9 ∧ dg F (p + k) ≠ -9) := by
  unfold fitP; omega
theorem fit43 {F : Nat → Int32} {p a : Int} : fitP F p a 4 3 ↔ (0 ≤ dg F (p + 3) ∧ dg F (p + 3) ≤ 3 ∧ dg F (p + 3) ≠ -9) := by
  unfold fitP; omega
theorem fit6 {F : Nat → Int32} {p a k : Int} (hk : k ≠ 3) (hk5 : k ≠ 5) : fitP F p a 6 k ↔ (0 ≤ dg F (p + k) ∧ dg F (p + k) ≤ 9 ∧ dg F (p + k) ≠ -9) := by
  unfold fitP; omega
theorem fit63 {F : Nat → Int32} {p a v : Int} (hv : v = dg F (p + 2)) : fitP F p a 6 3 ↔ (0 ≤ dg F (p + 3) ∧ dg F (p + 3) ≤ 9 ∧ dg F (p + 3) ≠ v) := by
  unfold fitP; omega
theorem fit65 {F : Nat → Int32} {p a : Int} (ha : a ≤ 5) : fitP F p a 6 5 ↔ (0 ≤ dg F (p + 5) ∧ dg F (p + 5) ≤ a - 1 ∧ dg F (p + 5) ≠ -9) := by
  unfold fitP; omega
theorem figs4 {F : Nat → Int32} {n p a u1 f1 r1 u2 f2 r2 u3 f3 r3 u0 f0 : Int} (hp : 0 ≤ p) (hn : p < n) (hu : u0 = p + 1) (hf : f0 = -9) (h1 : figP F n u0 f0 9 (-9) u1 f1 r1) (h2 : figP F n u1 f1 9 (-9) u2 f2 r2) (h3 : figP F n u2 f2 3 (-9) u3 f3 r3) : f3 = pf F n p a 4 6 1 ∧ (f3 = -9 → u3 = p + 4) := by
  have s1 : PS F n p a 4 1 u0 f0 (pf F n p a 4 6 1) := Or.inl ⟨hf, by omega, by omega, rfl⟩
  have s2 := (PS_step s1 hp (by omega) (by omega) (by omega) (fun _ => fit4 (by omega)) h1 (k' := 2) (by omega)).1
  have s3 := (PS_step s2 hp (by omega) (by omega) (by omega) (fun _ => fit4 (by omega)) h2 (k' := 3) (by omega)).1
  have s4 := (PS_step s3 hp (by omega) (by omega) (by omega) (fun _ => fit43) h3 (k' := 4) (by omega)).1
  exact PS_fin s4 (by omega)
theorem figs6 {F : Nat → Int32} {n p a u1 f1 r1 u2 f2 r2 u3 f3 r3 u4 f4 r4 u5 f5 r5 u0 f0 v m5 : Int} (hp : 0 ≤ p) (hn : p < n) (ha : a ≤ 5) (hu : u0 = p + 1) (hf : f0 = -9) (h1 : figP F n u0 f0 9 (-9) u1 f1 r1) (h2 : figP F n u1 f1 9 (-9) u2 f2 r2) (hv : v = r2) (h3 : figP F n u2 f2 9 v u3 f3 r3) (h4 : figP F n u3 f3 9 (-9) u4 f4 r4) (hm : m5 = a - 1) (h5 : figP F n u4 f4 m5 (-9) u5 f5 r5) : f5 = pf F n p a 6 6 1 ∧ (f5 = -9 → u5 = p + 6) := by
  have s1 : PS F n p a 6 1 u0 f0 (pf F n p a 6 6 1) := Or.inl ⟨hf, by omega, by omega, rfl⟩
  have s2 := (PS_step s1 hp (by omega) (by omega) (by omega) (fun _ => fit6 (by omega) (by omega)) h1 (k' := 2) (by omega)).1
  have s3 := PS_step s2 hp (by omega) (by omega) (by omega) (fun _ => fit6 (by omega) (by omega)) h2 (k' := 3) (by omega)
  have s4 := (PS_step s3.1 hp (by omega) (by omega) (by omega) (fun q => fit63 (hv.trans (s3.2 q))) h3 (k' := 4) (by omega)).1
  have s5 := (PS_step s4 hp (by omega) (by omega) (by omega) (fun _ => fit6 (by omega) (by omega)) h4 (k' := 5) (by omega)).1
  subst hm
  have s6 := (PS_step s5 hp (by omega) (by omega) (by omega) (fun _ => fit65 ha) h5 (k' := 6) (by omega)).1
  exact PS_fin s6 (by omega)
section PRG
variable {F : Nat → Int32} {n p a t z p' a' t' : Int} {T : Int × Int × Int}
theorem prs_go (h : prs F n (12 - a - t).toNat p a t = T) (ha : a ≤ 5) (ht : t ≤ 6) (h1 : p < n) (hz : (z = 4 ∧ (F p.toNat).toInt = 80 ∧ a < 5 ∧ a' = a + 1 ∧ t' = t) ∨ (z = 6 ∧ (F p.toNat).toInt = 84 ∧ t < 6 ∧ 0 < a ∧ a' = a ∧ t' = t + 1)) (hp : p' = p + z) (h3 : pf F n p a z 6 1 = -9) : prs F n (12 - a' - t').toNat p' a' t' = T := by
  rcases hz with ⟨z1, z2, z3, z4, z5⟩ | ⟨z1, z2, z3, z4, z5, z6⟩
  · subst z1; subst z5; exact prs_Pok h z3 ht h1 z2 h3 hp z4
  · subst z1; subst z5; exact prs_Tok h ha z4 z3 h1 z2 h3 hp z6
theorem prs_stop (h : prs F n (12 - a - t).toNat p a t = T) (ha : a ≤ 5) (ht : t ≤ 6) (h1 : p < n) (hz : (z = 4 ∧ (F p.toNat).toInt = 80 ∧ a < 5) ∨ (z = 6 ∧ (F p.toNat).toInt = 84 ∧ t < 6 ∧ 0 < a)) (h3 : pf F n p a z 6 1 ≠ -9) : T.1 = pf F n p a z 6 1 := by
  rcases hz with ⟨z1, z2, z3⟩ | ⟨z1, z2, z3, z4⟩
  · subst z1; rw [prs_Pbad h z3 ht h1 z2 h3]
  · subst z1; rw [prs_Tbad h ha z4 z3 h1 z2 h3]
end PRG
theorem upd_at {f : Nat → Int32} {i i2 x : Int32} (h : i2.toInt = i.toInt) : upd f i.toNatClampNeg x i2.toNatClampNeg = x := by
  rw [show i2.toNatClampNeg = i.toNatClampNeg by rw [cl_of, cl_of, h]]
  exact pk_us

theorem ti_bd2 (x : Int32) : -2147483648 ≤ x.toInt ∧ x.toInt < 2147483648 := ⟨Int32.le_toInt x, Int32.toInt_lt x⟩

set_option maxHeartbeats 600000 in
set_option maxRecDepth 100000 in
theorem t_X3_write (l : Launch) (D : va_G) (cI cZ cM : ClassId) (h0 : Nat) (n : Int32) (tx : Nat) (le : Int32) (td : Nat) (dr : Nat) (nw : Nat) (ac : Nat) (fa : Int32) (an : Int32) (kp : Nat) (ks : Int32) (sp : Nat) (ss : Nat) (sy : Nat) (sc : Int32) (sd : Int64) (tr : Nat) (ia : Nat) (Ftx : Nat → Int32) (sz : Nat) (h_le : 0 ≤ le.toInt ∧ le.toInt ≤ 64) : Ci l yX3_write wsX3_write ({ frames := 0, cells := 0, slots := 0, locals := 0 } : Room) D cI cZ cM [.ref h0, .int n] [(h0, .inr (3, [.ref tx, .int le, .ref td, .ref dr, .ref nw, .ref ac, .int fa, .int an, .ref kp, .int ks, .ref sp, .ref ss, .ref sy, .int sc, .long sd, .ref tr, .ref ia])), (tx, .inl (cI, 64, .inl Ftx))] sz (fun (r : Int32) (u : Int32 × (Nat → Int32)) => (((n.toInt < 0 ∨ 255 < n.toInt) ∧ r.toInt = -2 ∧ u.1 = le ∧ u.2 = Ftx) ∨ (0 ≤ n.toInt ∧ n.toInt ≤ 255 ∧ le.toInt = 64 ∧ r.toInt = -4 ∧ u.1 = le ∧ u.2 = Ftx) ∨ (0 ≤ n.toInt ∧ n.toInt ≤ 255 ∧ le.toInt < 64 ∧ r.toInt = le.toInt + 1 ∧ u.1 = le + 1 ∧ u.2 = upd Ftx (le).toNatClampNeg n)) ∧ 0 ≤ u.1.toInt ∧ u.1.toInt ≤ 64) (fun u => [(h0, .inr (3, [.ref tx, .int u.1, .ref td, .ref dr, .ref nw, .ref ac, .int fa, .int an, .ref kp, .int ks, .ref sp, .ref ss, .ref sy, .int sc, .long sd, .ref tr, .ref ia])), (tx, .inl (cI, 64, .inl u.2))]) 0 0 := by
  refine begins (l := l) (y := yX3_write) (ws := wsX3_write) (av := [.ref h0, .int n]) (Qc := fun A => va_Qi (fun (r : Int32) (u : Int32 × (Nat → Int32)) => (((n.toInt < 0 ∨ 255 < n.toInt) ∧ r.toInt = -2 ∧ u.1 = le ∧ u.2 = Ftx) ∨ (0 ≤ n.toInt ∧ n.toInt ≤ 255 ∧ le.toInt = 64 ∧ r.toInt = -4 ∧ u.1 = le ∧ u.2 = Ftx) ∨ (0 ≤ n.toInt ∧ n.toInt ≤ 255 ∧ le.toInt < 64 ∧ r.toInt = le.toInt + 1 ∧ u.1 = le + 1 ∧ u.2 = upd Ftx (le).toNatClampNeg n)) ∧ 0 ≤ u.1.toInt ∧ u.1.toInt ≤ 64) (fun u => Wd D cI cZ cM A ((fun u => [(h0, .inr (3, [.ref tx, .int u.1, .ref td, .ref dr, .ref nw, .ref ac, .int fa, .int an, .ref kp, .int ks, .ref sp, .ref ss, .ref sy, .int sc, .long sd, .ref tr, .ref ia])), (tx, .inl (cI, 64, .inl u.2))]) u)) A) cX3_write 2 (some .int) (by decide) rfl (Nat.le_of_ble_eq_true rfl) ?_
  intro p e s m args below meth c R Q A ls hBd hR hQ hA hS hK hP hD hl
  obtain ⟨hx, hb, hr, hts, hown, hlocks, hin, hml⟩ := hBd
  have hl : lv_has ls 2 [(0, .ref h0), (1, .int n)] := hl
  have iX3 : ∀ w ∈ wsX30, w ∈ wsX3_write := fun _ h => List.mem_cons_of_mem _ (List.mem_append_right _ h)
  obtain ⟨h_lea, h_leb⟩ := h_le
  refine lv_iload_n hx hb dX3_write_0 rfl (lv_at hl 1 rfl) ?_
  refine lv_if_lt (tgt := 11) hx hb dX3_write_1 (by decide) (fun c_1 => ?_) (fun c_1 => ?_)
  · have tc_1 := b_lt rfl (show (0 : Int32).toInt = 0 by decide) c_1
    refine lv_bipush (v := (-2)) hx hb dX3_write_11 (by decide) ?_
    exact ret_i (post := (fun (r : Int32) (u : Int32 × (Nat → Int32)) => (((n.toInt < 0 ∨ 255 < n.toInt) ∧ r.toInt = -2 ∧ u.1 = le ∧ u.2 = Ftx) ∨ (0 ≤ n.toInt ∧ n.toInt ≤ 255 ∧ le.toInt = 64 ∧ r.toInt = -4 ∧ u.1 = le ∧ u.2 = Ftx) ∨ (0 ≤ n.toInt ∧ n.toInt ≤ 255 ∧ le.toInt < 64 ∧ r.toInt = le.toInt + 1 ∧ u.1 = le + 1 ∧ u.2 = upd Ftx (le).toNatClampNeg n)) ∧ 0 ≤ u.1.toInt ∧ u.1.toInt ≤ 64)) (W1 := (fun u => [(h0, .inr (3, [.ref tx, .int u.1, .ref td, .ref dr, .ref nw, .ref ac, .int fa, .int an, .ref kp, .int ks, .ref sp, .ref ss, .ref sy, .int sc, .long sd, .ref tr, .ref ia])), (tx, .inl (cI, 64, .inl u.2))])) (le, Ftx) hx hb hr hlocks rfl hQ hK hP hD hS ⟨by decide, by decide⟩ dX3_write_13 (show (((n.toInt < 0 ∨ 255 < n.toInt) ∧ (-2 : Int) = -2 ∧ le = le ∧ Ftx = Ftx) ∨ (0 ≤ n.toInt ∧ n.toInt ≤ 255 ∧ le.toInt = 64 ∧ (-2 : Int) = -4 ∧ le = le ∧ Ftx = Ftx) ∨ (0 ≤ n.toInt ∧ n.toInt ≤ 255 ∧ le.toInt < 64 ∧ (-2 : Int) = le.toInt + 1 ∧ le = le + 1 ∧ Ftx = upd Ftx (le).toNatClampNeg n)) ∧ 0 ≤ le.toInt ∧ le.toInt ≤ 64 from ⟨Or.inl ⟨by omega, by decide, rfl, rfl⟩, by omega, by omega⟩)
  · have tc_1 := b_nlt rfl (show (0 : Int32).toInt = 0 by decide) c_1
    refine lv_iload_n hx hb dX3_write_4 rfl (lv_at hl 1 rfl) ?_
    refine lv_sipush (v := 255) hx hb dX3_write_5 (by decide) ?_
    refine lv_icmp_le (tgt := 14) hx hb dX3_write_8 (by decide) (fun c_2 => ?_) (fun c_2 => ?_)
    · have tc_2 := b_le rfl (show (255 : Int32).toInt = 255 by decide) c_2
      refine lv_aload_n hx hb dX3_write_14 rfl (lv_at hl 0 rfl) ?_
      refine va_get (D := D) (ci := 3) (v := .int le) (C := RX3) (T := TX3) (N := 17) hx hb hts iX3 hown hK hP 0 rfl rfl 1 (by decide) (hts (.fieldLink RX3 13 "PunchedTicket" "letters" "I") (List.mem_of_getElem? (i := 1) rfl)) (fun _ h9 => h9) rfl dX3_write_15 ?_
      refine lv_bipush (v := 64) hx hb dX3_write_18 (by decide) ?_
      refine lv_icmp_lt (tgt := 26) hx hb dX3_write_20 (by decide) (fun c_3 => ?_) (fun c_3 => ?_)
      · have tc_3 := b_lt rfl (show (64 : Int32).toInt = 64 by decide) c_3
        refine lv_aload_n hx hb dX3_write_26 rfl (lv_at hl 0 rfl) ?_
        refine va_get (D := D) (ci := 3) (v := .ref tx) (C := RX3) (T := TX3) (N := 17) hx hb hts iX3 hown hK hP 0 rfl rfl 0 (by decide) (hts (.fieldLink RX3 9 "PunchedTicket" "text" "[I") (List.mem_of_getElem? (i := 2) rfl)) (fun _ h9 => h9) rfl dX3_write_27 ?_
        refine lv_aload_n hx hb dX3_write_30 rfl (lv_at hl 0 rfl) ?_
        refine va_get (D := D) (ci := 3) (v := .int le) (C := RX3) (T := TX3) (N := 17) hx hb hts iX3 hown hK hP 0 rfl rfl 1 (by decide) (hts (.fieldLink RX3 13 "PunchedTicket" "letters" "I") (List.mem_of_getElem? (i := 1) rfl)) (fun _ h9 => h9) rfl dX3_write_31 ?_
        refine lv_iload_n hx hb dX3_write_34 rfl (lv_at hl 1 rfl) ?_
        refine va_iast hx hb hK hP hD hS 1 0 rfl rfl (vp_in_iff.mpr ⟨by omega, by omega⟩) dX3_write_35 (fun H locs hP hD hS => ?_)
        obtain ⟨f_4, ef_4⟩ : ∃ g : Nat → Int32, upd Ftx (le : Int32).toNatClampNeg n = g := ⟨_, rfl⟩
        rw [ef_4] at hP hD
        have hP : va_P D vwCl [(h0, .inr (3, [.ref tx, .int le, .ref td, .ref dr, .ref nw, .ref ac, .int fa, .int an, .ref kp, .int ks, .ref sp, .ref ss, .ref sy, .int sc, .long sd, .ref tr, .ref ia])), (tx, .inl (cI, 64, .inl f_4))] H := hP
        have hD : va_D A [(h0, .inr (3, [.ref tx, .int le, .ref td, .ref dr, .ref nw, .ref ac, .int fa, .int an, .ref kp, .int ks, .ref sp, .ref ss, .ref sy, .int sc, .long sd, .ref tr, .ref ia])), (tx, .inl (cI, 64, .inl f_4))] := hD
        refine lv_aload_n hx hb dX3_write_36 rfl (lv_at hl 0 rfl) ?_
        refine lv_dup hx hb dX3_write_37 rfl ?_
        refine va_get (D := D) (ci := 3) (v := .int le) (C := RX3) (T := TX3) (N := 17) hx hb hts iX3 hown hK hP 0 rfl rfl 1 (by decide) (hts (.fieldLink RX3 13 "PunchedTicket" "letters" "I") (List.mem_of_getElem? (i := 1) rfl)) (fun _ h9 => h9) rfl dX3_write_38 ?_
        refine lv_iconst (v := 1) hx hb dX3_write_41 (by decide) ?_
        refine lv_iadd hx hb dX3_write_42 ?_
        refine lv_topi (fun v_5 ev_5 => ?_)
        have tv_5 : v_5.toInt = le.toInt + (1 : Int) := by rw [ev_5]; exact ti_add (x := le) (y := 1) (show -2147483648 ≤ le.toInt + (1 : Int) by omega) (show le.toInt + (1 : Int) < 2147483648 by omega)
        refine va_put (D := D) (ci := 3) (v := .int v_5) (ty := .int) (C := RX3) (T := TX3) (N := 17) hx hb hts iX3 tyX3 tyX3_ok nmX3 hown hK hP hD hS 0 rfl rfl 1 (by decide) (hts (.fieldLink RX3 13 "PunchedTicket" "letters" "I") (List.mem_of_getElem? (i := 1) rfl)) (fun _ h9 => h9) rfl (by decide +kernel) rfl rfl (Nat.le_of_ble_eq_true rfl) dX3_write_43 (fun H locs hP hD hS => ?_)
        have hP : va_P D vwCl [(h0, .inr (3, [.ref tx, .int v_5, .ref td, .ref dr, .ref nw, .ref ac, .int fa, .int an, .ref kp, .int ks, .ref sp, .ref ss, .ref sy, .int sc, .long sd, .ref tr, .ref ia])), (tx, .inl (cI, 64, .inl f_4))] H := hP
        have hD : va_D A [(h0, .inr (3, [.ref tx, .int v_5, .ref td, .ref dr, .ref nw, .ref ac, .int fa, .int an, .ref kp, .int ks, .ref sp, .ref ss, .ref sy, .int sc, .long sd, .ref tr, .ref ia])), (tx, .inl (cI, 64, .inl f_4))] := hD
        refine lv_aload_n hx hb dX3_write_46 rfl (lv_at hl 0 rfl) ?_
        refine va_get (D := D) (ci := 3) (v := .int v_5) (C := RX3) (T := TX3) (N := 17) hx hb hts iX3 hown hK hP 0 rfl rfl 1 (by decide) (hts (.fieldLink RX3 13 "PunchedTicket" "letters" "I") (List.mem_of_getElem? (i := 1) rfl)) (fun _ h9 => h9) rfl dX3_write_47 ?_
        exact ret_i (post := (fun (r : Int32) (u : Int32 × (Nat → Int32)) => (((n.toInt < 0 ∨ 255 < n.toInt) ∧ r.toInt = -2 ∧ u.1 = le ∧ u.2 = Ftx) ∨ (0 ≤ n.toInt ∧ n.toInt ≤ 255 ∧ le.toInt = 64 ∧ r.toInt = -4 ∧ u.1 = le ∧ u.2 = Ftx) ∨ (0 ≤ n.toInt ∧ n.toInt ≤ 255 ∧ le.toInt < 64 ∧ r.toInt = le.toInt + 1 ∧ u.1 = le + 1 ∧ u.2 = upd Ftx (le).toNatClampNeg n)) ∧ 0 ≤ u.1.toInt ∧ u.1.toInt ≤ 64)) (W1 := (fun u => [(h0, .inr (3, [.ref tx, .int u.1, .ref td, .ref dr, .ref nw, .ref ac, .int fa, .int an, .ref kp, .int ks, .ref sp, .ref ss, .ref sy, .int sc, .long sd, .ref tr, .ref ia])), (tx, .inl (cI, 64, .inl u.2))])) (v_5, f_4) hx hb hr hlocks rfl hQ hK hP hD hS ⟨by decide, by decide⟩ dX3_write_50 (show (((n.toInt < 0 ∨ 255 < n.toInt) ∧ v_5.toInt = -2 ∧ v_5 = le ∧ f_4 = Ftx) ∨ (0 ≤ n.toInt ∧ n.toInt ≤ 255 ∧ le.toInt = 64 ∧ v_5.toInt = -4 ∧ v_5 = le ∧ f_4 = Ftx) ∨ (0 ≤ n.toInt ∧ n.toInt ≤ 255 ∧ le.toInt < 64 ∧ v_5.toInt = le.toInt + 1 ∧ v_5 = le + 1 ∧ f_4 = upd Ftx (le).toNatClampNeg n)) ∧ 0 ≤ v_5.toInt ∧ v_5.toInt ≤ 64 from ⟨Or.inr (Or.inr ⟨by omega, by omega, by omega, by omega, ev_5, ef_4.symm⟩), by omega, by omega⟩)
      · have tc_3 := b_nlt rfl (show (64 : Int32).toInt = 64 by decide) c_3
        refine lv_bipush (v := (-4)) hx hb dX3_write_23 (by decide) ?_
        exact ret_i (post := (fun (r : Int32) (u : Int32 × (Nat → Int32)) => (((n.toInt < 0 ∨ 255 < n.toInt) ∧ r.toInt = -2 ∧ u.1 = le ∧ u.2 = Ftx) ∨ (0 ≤ n.toInt ∧ n.toInt ≤ 255 ∧ le.toInt = 64 ∧ r.toInt = -4 ∧ u.1 = le ∧ u.2 = Ftx) ∨ (0 ≤ n.toInt ∧ n.toInt ≤ 255 ∧ le.toInt < 64 ∧ r.toInt = le.toInt + 1 ∧ u.1 = le + 1 ∧ u.2 = upd Ftx (le).toNatClampNeg n)) ∧ 0 ≤ u.1.toInt ∧ u.1.toInt ≤ 64)) (W1 := (fun u => [(h0, .inr (3, [.ref tx, .int u.1, .ref td, .ref dr, .ref nw, .ref ac, .int fa, .int an, .ref kp, .int ks, .ref sp, .ref ss, .ref sy, .int sc, .long sd, .ref tr, .ref ia])), (tx, .inl (cI, 64, .inl u.2))])) (le, Ftx) hx hb hr hlocks rfl hQ hK hP hD hS ⟨by decide, by decide⟩ dX3_write_25 (show (((n.toInt < 0 ∨ 255 < n.toInt) ∧ (-4 : Int) = -2 ∧ le = le ∧ Ftx = Ftx) ∨ (0 ≤ n.toInt ∧ n.toInt ≤ 255 ∧ le.toInt = 64 ∧ (-4 : Int) = -4 ∧ le = le ∧ Ftx = Ftx) ∨ (0 ≤ n.toInt ∧ n.toInt ≤ 255 ∧ le.toInt < 64 ∧ (-4 : Int) = le.toInt + 1 ∧ le = le + 1 ∧ Ftx = upd Ftx (le).toNatClampNeg n)) ∧ 0 ≤ le.toInt ∧ le.toInt ≤ 64 from ⟨Or.inr (Or.inl ⟨by omega, by omega, by omega, by decide, rfl, rfl⟩), by omega, by omega⟩)
    · have tc_2 := b_nle rfl (show (255 : Int32).toInt = 255 by decide) c_2
      refine lv_bipush (v := (-2)) hx hb dX3_write_11 (by decide) ?_
      exact ret_i (post := (fun (r : Int32) (u : Int32 × (Nat → Int32)) => (((n.toInt < 0 ∨ 255 < n.toInt) ∧ r.toInt = -2 ∧ u.1 = le ∧ u.2 = Ftx) ∨ (0 ≤ n.toInt ∧ n.toInt ≤ 255 ∧ le.toInt = 64 ∧ r.toInt = -4 ∧ u.1 = le ∧ u.2 = Ftx) ∨ (0 ≤ n.toInt ∧ n.toInt ≤ 255 ∧ le.toInt < 64 ∧ r.toInt = le.toInt + 1 ∧ u.1 = le + 1 ∧ u.2 = upd Ftx (le).toNatClampNeg n)) ∧ 0 ≤ u.1.toInt ∧ u.1.toInt ≤ 64)) (W1 := (fun u => [(h0, .inr (3, [.ref tx, .int u.1, .ref td, .ref dr, .ref nw, .ref ac, .int fa, .int an, .ref kp, .int ks, .ref sp, .ref ss, .ref sy, .int sc, .long sd, .ref tr, .ref ia])), (tx, .inl (cI, 64, .inl u.2))])) (le, Ftx) hx hb hr hlocks rfl hQ hK hP hD hS ⟨by decide, by decide⟩ dX3_write_13 (show (((n.toInt < 0 ∨ 255 < n.toInt) ∧ (-2 : Int) = -2 ∧ le = le ∧ Ftx = Ftx) ∨ (0 ≤ n.toInt ∧ n.toInt ≤ 255 ∧ le.toInt = 64 ∧ (-2 : Int) = -4 ∧ le = le ∧ Ftx = Ftx) ∨ (0 ≤ n.toInt ∧ n.toInt ≤ 255 ∧ le.toInt < 64 ∧ (-2 : Int) = le.toInt + 1 ∧ le = le + 1 ∧ Ftx = upd Ftx (le).toNatClampNeg n)) ∧ 0 ≤ le.toInt ∧ le.toInt ≤ 64 from ⟨Or.inl ⟨by omega, by decide, rfl, rfl⟩, by omega, by omega⟩)

set_option maxHeartbeats 600000 in
set_option maxRecDepth 100000 in
theorem t_X4_write (l : Launch) (D : va_G) (cI cZ cM : ClassId) (h0 : Nat) (n : Int32) (ype : Int32) (ytk : Int32) (ywi : Nat) (yki : Nat) (yse : Nat) (yno : Nat) (yrh : Nat) (yrw : Nat) (yrk : Nat) (yrt : Nat) (yrp : Int32) (yrq : Int32) (ytx : Nat) (yle : Int32) (yat : Int32) (yfa : Int32) (yby : Nat) (ylo : Nat) (yhi : Nat) (yac : Int32) (ynx : Int32) (yro : Nat) (ygl : Nat) (ysn : Int32) (yso : Nat) (ysp : Nat) (ysw : Nat) (ysd : Int64) (yik : Nat) (ykp : Nat) (Ftx : Nat → Int32) (sz : Nat) (h_yle : 0 ≤ yle.toInt ∧ yle.toInt ≤ 64) : Ci l yX4_write wsX4_write ({ frames := 1, cells := 0, slots := 0, locals := 25 } : Room) D cI cZ cM [.ref h0, .int n] [(h0, .inr (4, [.int ype, .int ytk, .ref ywi, .ref yki, .ref yse, .ref yno, .ref yrh, .ref yrw, .ref yrk, .ref yrt, .int yrp, .int yrq, .ref ytx, .int yle, .int yat, .int yfa, .ref yby, .ref ylo, .ref yhi, .int yac, .int ynx, .ref yro, .ref ygl, .int ysn, .ref yso, .ref ysp, .ref ysw, .long ysd, .ref yik, .ref ykp])), (ytx, .inl (cI, 64, .inl Ftx))] sz (fun (r : Int32) (u : Int32 × (Nat → Int32)) => (((n.toInt < 0 ∨ 255 < n.toInt) ∧ r.toInt = -2 ∧ u.1 = yle ∧ u.2 = Ftx) ∨ (0 ≤ n.toInt ∧ n.toInt ≤ 255 ∧ yle.toInt = 64 ∧ r.toInt = -4 ∧ u.1 = yle ∧ u.2 = Ftx) ∨ (0 ≤ n.toInt ∧ n.toInt ≤ 255 ∧ yle.toInt < 64 ∧ r.toInt = yle.toInt + 1 ∧ u.1 = yle + 1 ∧ u.2 = upd Ftx (yle).toNatClampNeg n)) ∧ 0 ≤ u.1.toInt ∧ u.1.toInt ≤ 64) (fun u => [(h0, .inr (4, [.int ype, .int ytk, .ref ywi, .ref yki, .ref yse, .ref yno, .ref yrh, .ref yrw, .ref yrk, .ref yrt, .int yrp, .int yrq, .ref ytx, .int u.1, .int yat, .int yfa, .ref yby, .ref ylo, .ref yhi, .int yac, .int ynx, .ref yro, .ref ygl, .int ysn, .ref yso, .ref ysp, .ref ysw, .long ysd, .ref yik, .ref ykp])), (ytx, .inl (cI, 64, .inl u.2))]) 0 0 := by
  refine begins (l := l) (y := yX4_write) (ws := wsX4_write) (av := [.ref h0, .int n]) (Qc := fun A => va_Qi (fun (r : Int32) (u : Int32 × (Nat → Int32)) => (((n.toInt < 0 ∨ 255 < n.toInt) ∧ r.toInt = -2 ∧ u.1 = yle ∧ u.2 = Ftx) ∨ (0 ≤ n.toInt ∧ n.toInt ≤ 255 ∧ yle.toInt = 64 ∧ r.toInt = -4 ∧ u.1 = yle ∧ u.2 = Ftx) ∨ (0 ≤ n.toInt ∧ n.toInt ≤ 255 ∧ yle.toInt < 64 ∧ r.toInt = yle.toInt + 1 ∧ u.1 = yle + 1 ∧ u.2 = upd Ftx (yle).toNatClampNeg n)) ∧ 0 ≤ u.1.toInt ∧ u.1.toInt ≤ 64) (fun u => Wd D cI cZ cM A ((fun u => [(h0, .inr (4, [.int ype, .int ytk, .ref ywi, .ref yki, .ref yse, .ref yno, .ref yrh, .ref yrw, .ref yrk, .ref yrt, .int yrp, .int yrq, .ref ytx, .int u.1, .int yat, .int yfa, .ref yby, .ref ylo, .ref yhi, .int yac, .int ynx, .ref yro, .ref ygl, .int ysn, .ref yso, .ref ysp, .ref ysw, .long ysd, .ref yik, .ref ykp])), (ytx, .inl (cI, 64, .inl u.2))]) u)) A) cX4_write 2 (some .int) (by decide) rfl (Nat.le_of_ble_eq_true rfl) ?_
  intro p e s m args below meth c R Q A ls hBd hR hQ hA hS hK hP hD hl
  obtain ⟨hx, hb, hr, hts, hown, hlocks, hin, hml⟩ := hBd
  have hl : lv_has ls 2 [(0, .ref h0), (1, .int n)] := hl
  have iX4 : ∀ w ∈ wsX40, w ∈ wsX4_write := fun _ h => List.mem_cons_of_mem _ (List.mem_append_right _ h)
  obtain ⟨h_ylea, h_yleb⟩ := h_yle
  refine lv_iload_n hx hb dX4_write_0 rfl (lv_at hl 1 rfl) ?_
  obtain ⟨w_1, ew_1⟩ : ∃ z : Int64, n.toInt64 = z := ⟨_, rfl⟩
  have tw_1 : w_1.toInt = n.toInt := by rw [← ew_1, Int32.toInt_toInt64]
  refine lv_i2l hx hb dX4_write_1 ew_1 ?_
  refine lv_lconst (v := 0) hx hb dX4_write_2 (by decide) ?_
  refine lv_ldc2 (v := (255)) hx hb hown (hts (.constantLong RX4 72 (255)) (List.mem_of_getElem? (i := 1) rfl)) dX4_write_3 ?_
  refine cS_i (As := [.long w_1, .long 0, .long (255)]) (rest := []) ⟨hx, hb, hml, hown, hts⟩ (c_X4_in l D cI cZ cM w_1 0 (255) _ ) (va_cwS 3 hts gX4_write_X4_in rfl rfl rfl (by decide +kernel) ⟨by rw [hR]; decide, by rw [hR]; decide⟩) hK hP hD hS hA [] [0, 1] rfl rfl (by decide) (by decide) (by decide) hl.1 rfl rfl (Nat.le_of_ble_eq_true rfl) dX4_write_6 ⟨by rw [hR]; decide, by rw [hR]; decide⟩ (fun r_2 u_3 H locs hw hP hD hS => ?_)
  have hP : va_P D vwCl [(h0, .inr (4, [.int ype, .int ytk, .ref ywi, .ref yki, .ref yse, .ref yno, .ref yrh, .ref yrw, .ref yrk, .ref yrt, .int yrp, .int yrq, .ref ytx, .int yle, .int yat, .int yfa, .ref yby, .ref ylo, .ref yhi, .int yac, .int ynx, .ref yro, .ref ygl, .int ysn, .ref yso, .ref ysp, .ref ysw, .long ysd, .ref yik, .ref ykp])), (ytx, .inl (cI, 64, .inl Ftx))] H := hP.sub [0, 1] rfl
  have hD : va_D A [(h0, .inr (4, [.int ype, .int ytk, .ref ywi, .ref yki, .ref yse, .ref yno, .ref yrh, .ref yrw, .ref yrk, .ref yrt, .int yrp, .int yrq, .ref ytx, .int yle, .int yat, .int yfa, .ref yby, .ref ylo, .ref yhi, .int yac, .int ynx, .ref yro, .ref ygl, .int ysn, .ref yso, .ref ysp, .ref ysw, .long ysd, .ref yik, .ref ykp])), (ytx, .inl (cI, 64, .inl Ftx))] := hD.sub [0, 1] (by decide) rfl
  refine W.widen (k := 0) (n := 0) (Nat.le_refl _) (Nat.le_refl _) ?_
  have hw : (r_2.toInt = 1 ∧ (0 : Int) ≤ w_1.toInt ∧ w_1.toInt ≤ (255 : Int)) ∨ (r_2.toInt = 0 ∧ (w_1.toInt < (0 : Int) ∨ (255 : Int) < w_1.toInt)) := hw
  have hw_4 := hw
  refine lv_if_ne (tgt := 15) hx hb dX4_write_9 (by decide) (fun c_5 => ?_) (fun c_5 => ?_)
  · have tc_5 := b_ne rfl (show (0 : Int32).toInt = 0 by decide) c_5
    refine lv_aload_n hx hb dX4_write_15 rfl (lv_at hl 0 rfl) ?_
    refine va_get (D := D) (ci := 4) (v := .int yle) (C := RX4) (T := TX4) (N := 30) hx hb hts iX4 hown hK hP 0 rfl rfl 13 (by decide) (hts (.fieldLink RX4 78 "PunchedTicketModel" "length" "I") (List.mem_of_getElem? (i := 2) rfl)) (fun _ h9 => h9) rfl dX4_write_16 ?_
    refine lv_bipush (v := 64) hx hb dX4_write_19 (by decide) ?_
    refine lv_icmp_ne (tgt := 27) hx hb dX4_write_21 (by decide) (fun c_6 => ?_) (fun c_6 => ?_)
    · have tc_6 := b_ne rfl (show (64 : Int32).toInt = 64 by decide) c_6
      refine lv_aload_n hx hb dX4_write_27 rfl (lv_at hl 0 rfl) ?_
      refine va_get (D := D) (ci := 4) (v := .ref ytx) (C := RX4) (T := TX4) (N := 30) hx hb hts iX4 hown hK hP 0 rfl rfl 12 (by decide) (hts (.fieldLink RX4 34 "PunchedTicketModel" "text" "[I") (List.mem_of_getElem? (i := 3) rfl)) (fun _ h9 => h9) rfl dX4_write_28 ?_
      refine lv_aload_n hx hb dX4_write_31 rfl (lv_at hl 0 rfl) ?_
      refine va_get (D := D) (ci := 4) (v := .int yle) (C := RX4) (T := TX4) (N := 30) hx hb hts iX4 hown hK hP 0 rfl rfl 13 (by decide) (hts (.fieldLink RX4 78 "PunchedTicketModel" "length" "I") (List.mem_of_getElem? (i := 2) rfl)) (fun _ h9 => h9) rfl dX4_write_32 ?_
      refine lv_iload_n hx hb dX4_write_35 rfl (lv_at hl 1 rfl) ?_
      refine va_iast hx hb hK hP hD hS 1 0 rfl rfl (vp_in_iff.mpr ⟨by omega, by omega⟩) dX4_write_36 (fun H locs hP hD hS => ?_)
      obtain ⟨f_7, ef_7⟩ : ∃ g : Nat → Int32, upd Ftx (yle : Int32).toNatClampNeg n = g := ⟨_, rfl⟩
      rw [ef_7] at hP hD
      have hP : va_P D vwCl [(h0, .inr (4, [.int ype, .int ytk, .ref ywi, .ref yki, .ref yse, .ref yno, .ref yrh, .ref yrw, .ref yrk, .ref yrt, .int yrp, .int yrq, .ref ytx, .int yle, .int yat, .int yfa, .ref yby, .ref ylo, .ref yhi, .int yac, .int ynx, .ref yro, .ref ygl, .int ysn, .ref yso, .ref ysp, .ref ysw, .long ysd, .ref yik, .ref ykp])), (ytx, .inl (cI, 64, .inl f_7))] H := hP
      have hD : va_D A [(h0, .inr (4, [.int ype, .int ytk, .ref ywi, .ref yki, .ref yse, .ref yno, .ref yrh, .ref yrw, .ref yrk, .ref yrt, .int yrp, .int yrq, .ref ytx, .int yle, .int yat, .int yfa, .ref yby, .ref ylo, .ref yhi, .int yac, .int ynx, .ref yro, .ref ygl, .int ysn, .ref yso, .ref ysp, .ref ysw, .long ysd, .ref yik, .ref ykp])), (ytx, .inl (cI, 64, .inl f_7))] := hD
      refine lv_aload_n hx hb dX4_write_37 rfl (lv_at hl 0 rfl) ?_
      refine lv_dup hx hb dX4_write_38 rfl ?_
      refine va_get (D := D) (ci := 4) (v := .int yle) (C := RX4) (T := TX4) (N := 30) hx hb hts iX4 hown hK hP 0 rfl rfl 13 (by decide) (hts (.fieldLink RX4 78 "PunchedTicketModel" "length" "I") (List.mem_of_getElem? (i := 2) rfl)) (fun _ h9 => h9) rfl dX4_write_39 ?_
      refine lv_iconst (v := 1) hx hb dX4_write_42 (by decide) ?_
      refine lv_iadd hx hb dX4_write_43 ?_
      refine lv_topi (fun v_8 ev_8 => ?_)
      have tv_8 : v_8.toInt = yle.toInt + (1 : Int) := by rw [ev_8]; exact ti_add (x := yle) (y := 1) (show -2147483648 ≤ yle.toInt + (1 : Int) by omega) (show yle.toInt + (1 : Int) < 2147483648 by omega)
      refine va_put (D := D) (ci := 4) (v := .int v_8) (ty := .int) (C := RX4) (T := TX4) (N := 30) hx hb hts iX4 tyX4 tyX4_ok nmX4 hown hK hP hD hS 0 rfl rfl 13 (by decide) (hts (.fieldLink RX4 78 "PunchedTicketModel" "length" "I") (List.mem_of_getElem? (i := 2) rfl)) (fun _ h9 => h9) rfl (by decide +kernel) rfl rfl (Nat.le_of_ble_eq_true rfl) dX4_write_44 (fun H locs hP hD hS => ?_)
      have hP : va_P D vwCl [(h0, .inr (4, [.int ype, .int ytk, .ref ywi, .ref yki, .ref yse, .ref yno, .ref yrh, .ref yrw, .ref yrk, .ref yrt, .int yrp, .int yrq, .ref ytx, .int v_8, .int yat, .int yfa, .ref yby, .ref ylo, .ref yhi, .int yac, .int ynx, .ref yro, .ref ygl, .int ysn, .ref yso, .ref ysp, .ref ysw, .long ysd, .ref yik, .ref ykp])), (ytx, .inl (cI, 64, .inl f_7))] H := hP
      have hD : va_D A [(h0, .inr (4, [.int ype, .int ytk, .ref ywi, .ref yki, .ref yse, .ref yno, .ref yrh, .ref yrw, .ref yrk, .ref yrt, .int yrp, .int yrq, .ref ytx, .int v_8, .int yat, .int yfa, .ref yby, .ref ylo, .ref yhi, .int yac, .int ynx, .ref yro, .ref ygl, .int ysn, .ref yso, .ref ysp, .ref ysw, .long ysd, .ref yik, .ref ykp])), (ytx, .inl (cI, 64, .inl f_7))] := hD
      refine lv_aload_n hx hb dX4_write_47 rfl (lv_at hl 0 rfl) ?_
      refine va_get (D := D) (ci := 4) (v := .int v_8) (C := RX4) (T := TX4) (N := 30) hx hb hts iX4 hown hK hP 0 rfl rfl 13 (by decide) (hts (.fieldLink RX4 78 "PunchedTicketModel" "length" "I") (List.mem_of_getElem? (i := 2) rfl)) (fun _ h9 => h9) rfl dX4_write_48 ?_
      exact ret_i (post := (fun (r : Int32) (u : Int32 × (Nat → Int32)) => (((n.toInt < 0 ∨ 255 < n.toInt) ∧ r.toInt = -2 ∧ u.1 = yle ∧ u.2 = Ftx) ∨ (0 ≤ n.toInt ∧ n.toInt ≤ 255 ∧ yle.toInt = 64 ∧ r.toInt = -4 ∧ u.1 = yle ∧ u.2 = Ftx) ∨ (0 ≤ n.toInt ∧ n.toInt ≤ 255 ∧ yle.toInt < 64 ∧ r.toInt = yle.toInt + 1 ∧ u.1 = yle + 1 ∧ u.2 = upd Ftx (yle).toNatClampNeg n)) ∧ 0 ≤ u.1.toInt ∧ u.1.toInt ≤ 64)) (W1 := (fun u => [(h0, .inr (4, [.int ype, .int ytk, .ref ywi, .ref yki, .ref yse, .ref yno, .ref yrh, .ref yrw, .ref yrk, .ref yrt, .int yrp, .int yrq, .ref ytx, .int u.1, .int yat, .int yfa, .ref yby, .ref ylo, .ref yhi, .int yac, .int ynx, .ref yro, .ref ygl, .int ysn, .ref yso, .ref ysp, .ref ysw, .long ysd, .ref yik, .ref ykp])), (ytx, .inl (cI, 64, .inl u.2))])) (v_8, f_7) hx hb hr hlocks rfl hQ hK hP hD hS ⟨by decide, by decide⟩ dX4_write_51 (show (((n.toInt < 0 ∨ 255 < n.toInt) ∧ v_8.toInt = -2 ∧ v_8 = yle ∧ f_7 = Ftx) ∨ (0 ≤ n.toInt ∧ n.toInt ≤ 255 ∧ yle.toInt = 64 ∧ v_8.toInt = -4 ∧ v_8 = yle ∧ f_7 = Ftx) ∨ (0 ≤ n.toInt ∧ n.toInt ≤ 255 ∧ yle.toInt < 64 ∧ v_8.toInt = yle.toInt + 1 ∧ v_8 = yle + 1 ∧ f_7 = upd Ftx (yle).toNatClampNeg n)) ∧ 0 ≤ v_8.toInt ∧ v_8.toInt ≤ 64 from ⟨Or.inr (Or.inr ⟨by omega, by omega, by omega, by omega, ev_8, ef_7.symm⟩), by omega, by omega⟩)
    · have tc_6 := b_eq rfl (show (64 : Int32).toInt = 64 by decide) c_6
      refine lv_bipush (v := (-4)) hx hb dX4_write_24 (by decide) ?_
      exact ret_i (post := (fun (r : Int32) (u : Int32 × (Nat → Int32)) => (((n.toInt < 0 ∨ 255 < n.toInt) ∧ r.toInt = -2 ∧ u.1 = yle ∧ u.2 = Ftx) ∨ (0 ≤ n.toInt ∧ n.toInt ≤ 255 ∧ yle.toInt = 64 ∧ r.toInt = -4 ∧ u.1 = yle ∧ u.2 = Ftx) ∨ (0 ≤ n.toInt ∧ n.toInt ≤ 255 ∧ yle.toInt < 64 ∧ r.toInt = yle.toInt + 1 ∧ u.1 = yle + 1 ∧ u.2 = upd Ftx (yle).toNatClampNeg n)) ∧ 0 ≤ u.1.toInt ∧ u.1.toInt ≤ 64)) (W1 := (fun u => [(h0, .inr (4, [.int ype, .int ytk, .ref ywi, .ref yki, .ref yse, .ref yno, .ref yrh, .ref yrw, .ref yrk, .ref yrt, .int yrp, .int yrq, .ref ytx, .int u.1, .int yat, .int yfa, .ref yby, .ref ylo, .ref yhi, .int yac, .int ynx, .ref yro, .ref ygl, .int ysn, .ref yso, .ref ysp, .ref ysw, .long ysd, .ref yik, .ref ykp])), (ytx, .inl (cI, 64, .inl u.2))])) (yle, Ftx) hx hb hr hlocks rfl hQ hK hP hD hS ⟨by decide, by decide⟩ dX4_write_26 (show (((n.toInt < 0 ∨ 255 < n.toInt) ∧ (-4 : Int) = -2 ∧ yle = yle ∧ Ftx = Ftx) ∨ (0 ≤ n.toInt ∧ n.toInt ≤ 255 ∧ yle.toInt = 64 ∧ (-4 : Int) = -4 ∧ yle = yle ∧ Ftx = Ftx) ∨ (0 ≤ n.toInt ∧ n.toInt ≤ 255 ∧ yle.toInt < 64 ∧ (-4 : Int) = yle.toInt + 1 ∧ yle = yle + 1 ∧ Ftx = upd Ftx (yle).toNatClampNeg n)) ∧ 0 ≤ yle.toInt ∧ yle.toInt ≤ 64 from ⟨Or.inr (Or.inl ⟨by omega, by omega, by omega, by decide, rfl, rfl⟩), by omega, by omega⟩)
  · have tc_5 := b_eq rfl (show (0 : Int32).toInt = 0 by decide) c_5
    refine lv_bipush (v := (-2)) hx hb dX4_write_12 (by decide) ?_
    exact ret_i (post := (fun (r : Int32) (u : Int32 × (Nat → Int32)) => (((n.toInt < 0 ∨ 255 < n.toInt) ∧ r.toInt = -2 ∧ u.1 = yle ∧ u.2 = Ftx) ∨ (0 ≤ n.toInt ∧ n.toInt ≤ 255 ∧ yle.toInt = 64 ∧ r.toInt = -4 ∧ u.1 = yle ∧ u.2 = Ftx) ∨ (0 ≤ n.toInt ∧ n.toInt ≤ 255 ∧ yle.toInt < 64 ∧ r.toInt = yle.toInt + 1 ∧ u.1 = yle + 1 ∧ u.2 = upd Ftx (yle).toNatClampNeg n)) ∧ 0 ≤ u.1.toInt ∧ u.1.toInt ≤ 64)) (W1 := (fun u => [(h0, .inr (4, [.int ype, .int ytk, .ref ywi, .ref yki, .ref yse, .ref yno, .ref yrh, .ref yrw, .ref yrk, .ref yrt, .int yrp, .int yrq, .ref ytx, .int u.1, .int yat, .int yfa, .ref yby, .ref ylo, .ref yhi, .int yac, .int ynx, .ref yro, .ref ygl, .int ysn, .ref yso, .ref ysp, .ref ysw, .long ysd, .ref yik, .ref ykp])), (ytx, .inl (cI, 64, .inl u.2))])) (yle, Ftx) hx hb hr hlocks rfl hQ hK hP hD hS ⟨by decide, by decide⟩ dX4_write_14 (show (((n.toInt < 0 ∨ 255 < n.toInt) ∧ (-2 : Int) = -2 ∧ yle = yle ∧ Ftx = Ftx) ∨ (0 ≤ n.toInt ∧ n.toInt ≤ 255 ∧ yle.toInt = 64 ∧ (-2 : Int) = -4 ∧ yle = yle ∧ Ftx = Ftx) ∨ (0 ≤ n.toInt ∧ n.toInt ≤ 255 ∧ yle.toInt < 64 ∧ (-2 : Int) = yle.toInt + 1 ∧ yle = yle + 1 ∧ Ftx = upd Ftx (yle).toNatClampNeg n)) ∧ 0 ≤ yle.toInt ∧ yle.toInt ≤ 64 from ⟨Or.inl ⟨by omega, by decide, rfl, rfl⟩, by omega, by omega⟩)

set_option maxHeartbeats 600000 in
set_option maxRecDepth 100000 in
theorem t_X0_partSize (l : Launch) (D : va_G) (cI cZ cM : ClassId) (h0 : Nat) (n : Int32) (lpe : Int32) (ltk : Int32) (lho : Nat) (lli : Nat) (lki : Nat) (lfd : Nat) (lfr : Nat) (lto : Nat) (lse : Nat) (lhl : Nat) (sz : Nat)  : Ci l yX0_partSize wsX0_partSize ({ frames := 0, cells := 0, slots := 0, locals := 0 } : Room) D cI cZ cM [.ref h0, .int n] [(h0, .inr (0, [.int lpe, .int ltk, .ref lho, .ref lli, .ref lki, .ref lfd, .ref lfr, .ref lto, .ref lse, .ref lhl]))] sz (fun (r : Int32) (u : Unit) => (r.toInt = 4 ∧ n.toInt = 80 ∧ lpe.toInt < 5) ∨ (r.toInt = 6 ∧ n.toInt = 84 ∧ ltk.toInt < 6 ∧ 0 < lpe.toInt) ∨ (r.toInt = 0 ∧ (n.toInt ≠ 80 ∨ 5 ≤ lpe.toInt) ∧ (n.toInt ≠ 84 ∨ 6 ≤ ltk.toInt ∨ lpe.toInt ≤ 0))) (fun u => [(h0, .inr (0, [.int lpe, .int ltk, .ref lho, .ref lli, .ref lki, .ref lfd, .ref lfr, .ref lto, .ref lse, .ref lhl]))]) 0 0 := by
  refine begins (l := l) (y := yX0_partSize) (ws := wsX0_partSize) (av := [.ref h0, .int n]) (Qc := fun A => va_Qi (fun (r : Int32) (u : Unit) => (r.toInt = 4 ∧ n.toInt = 80 ∧ lpe.toInt < 5) ∨ (r.toInt = 6 ∧ n.toInt = 84 ∧ ltk.toInt < 6 ∧ 0 < lpe.toInt) ∨ (r.toInt = 0 ∧ (n.toInt ≠ 80 ∨ 5 ≤ lpe.toInt) ∧ (n.toInt ≠ 84 ∨ 6 ≤ ltk.toInt ∨ lpe.toInt ≤ 0))) (fun u => Wd D cI cZ cM A ((fun u => [(h0, .inr (0, [.int lpe, .int ltk, .ref lho, .ref lli, .ref lki, .ref lfd, .ref lfr, .ref lto, .ref lse, .ref lhl]))]) u)) A) cX0_partSize 2 (some .int) (by decide) rfl (Nat.le_of_ble_eq_true rfl) ?_
  intro p e s m args below meth c R Q A ls hBd hR hQ hA hS hK hP hD hl
  obtain ⟨hx, hb, hr, hts, hown, hlocks, hin, hml⟩ := hBd
  have hl : lv_has ls 2 [(0, .ref h0), (1, .int n)] := hl
  have iX0 : ∀ w ∈ wsX00, w ∈ wsX0_partSize := fun _ h => List.mem_cons_of_mem _ (List.mem_append_right _ h)
  refine lv_iload_n hx hb dX0_partSize_0 rfl (lv_at hl 1 rfl) ?_
  refine lv_bipush (v := 80) hx hb dX0_partSize_1 (by decide) ?_
  refine lv_icmp_ne (tgt := 16) hx hb dX0_partSize_3 (by decide) (fun c_1 => ?_) (fun c_1 => ?_)
  · have tc_1 := b_ne rfl (show (80 : Int32).toInt = 80 by decide) c_1
    refine lv_iload_n hx hb dX0_partSize_16 rfl (lv_at hl 1 rfl) ?_
    refine lv_bipush (v := 84) hx hb dX0_partSize_17 (by decide) ?_
    refine lv_icmp_ne (tgt := 41) hx hb dX0_partSize_19 (by decide) (fun c_2 => ?_) (fun c_2 => ?_)
    · have tc_2 := b_ne rfl (show (84 : Int32).toInt = 84 by decide) c_2
      refine lv_iconst (v := 0) hx hb dX0_partSize_41 (by decide) ?_
      exact ret_i (post := (fun (r : Int32) (u : Unit) => (r.toInt = 4 ∧ n.toInt = 80 ∧ lpe.toInt < 5) ∨ (r.toInt = 6 ∧ n.toInt = 84 ∧ ltk.toInt < 6 ∧ 0 < lpe.toInt) ∨ (r.toInt = 0 ∧ (n.toInt ≠ 80 ∨ 5 ≤ lpe.toInt) ∧ (n.toInt ≠ 84 ∨ 6 ≤ ltk.toInt ∨ lpe.toInt ≤ 0)))) (W1 := (fun u => [(h0, .inr (0, [.int lpe, .int ltk, .ref lho, .ref lli, .ref lki, .ref lfd, .ref lfr, .ref lto, .ref lse, .ref lhl]))])) () hx hb hr hlocks rfl hQ hK hP hD hS ⟨by decide, by decide⟩ dX0_partSize_42 (show ((0 : Int) = 4 ∧ n.toInt = 80 ∧ lpe.toInt < 5) ∨ ((0 : Int) = 6 ∧ n.toInt = 84 ∧ ltk.toInt < 6 ∧ 0 < lpe.toInt) ∨ ((0 : Int) = 0 ∧ (n.toInt ≠ 80 ∨ 5 ≤ lpe.toInt) ∧ (n.toInt ≠ 84 ∨ 6 ≤ ltk.toInt ∨ lpe.toInt ≤ 0)) by omega)
    · have tc_2 := b_eq rfl (show (84 : Int32).toInt = 84 by decide) c_2
      refine lv_aload_n hx hb dX0_partSize_22 rfl (lv_at hl 0 rfl) ?_
      refine va_get (D := D) (ci := 0) (v := .int ltk) (C := RX0) (T := TX0) (N := 10) hx hb hts iX0 hown hK hP 0 rfl rfl 1 (by decide) (hts (.fieldLink RX0 15 "PunchedTicket$Line" "tickets" "I") (List.mem_of_getElem? (i := 2) rfl)) (fun _ h9 => h9) rfl dX0_partSize_23 ?_
      refine lv_bipush (v := 6) hx hb dX0_partSize_26 (by decide) ?_
      refine lv_icmp_ge (tgt := 41) hx hb dX0_partSize_28 (by decide) (fun c_3 => ?_) (fun c_3 => ?_)
      · have tc_3 := b_le (show (6 : Int32).toInt = 6 by decide) rfl c_3
        refine lv_iconst (v := 0) hx hb dX0_partSize_41 (by decide) ?_
        exact ret_i (post := (fun (r : Int32) (u : Unit) => (r.toInt = 4 ∧ n.toInt = 80 ∧ lpe.toInt < 5) ∨ (r.toInt = 6 ∧ n.toInt = 84 ∧ ltk.toInt < 6 ∧ 0 < lpe.toInt) ∨ (r.toInt = 0 ∧ (n.toInt ≠ 80 ∨ 5 ≤ lpe.toInt) ∧ (n.toInt ≠ 84 ∨ 6 ≤ ltk.toInt ∨ lpe.toInt ≤ 0)))) (W1 := (fun u => [(h0, .inr (0, [.int lpe, .int ltk, .ref lho, .ref lli, .ref lki, .ref lfd, .ref lfr, .ref lto, .ref lse, .ref lhl]))])) () hx hb hr hlocks rfl hQ hK hP hD hS ⟨by decide, by decide⟩ dX0_partSize_42 (show ((0 : Int) = 4 ∧ n.toInt = 80 ∧ lpe.toInt < 5) ∨ ((0 : Int) = 6 ∧ n.toInt = 84 ∧ ltk.toInt < 6 ∧ 0 < lpe.toInt) ∨ ((0 : Int) = 0 ∧ (n.toInt ≠ 80 ∨ 5 ≤ lpe.toInt) ∧ (n.toInt ≠ 84 ∨ 6 ≤ ltk.toInt ∨ lpe.toInt ≤ 0)) by omega)
      · have tc_3 := b_nle (show (6 : Int32).toInt = 6 by decide) rfl c_3
        refine lv_aload_n hx hb dX0_partSize_31 rfl (lv_at hl 0 rfl) ?_
        refine va_get (D := D) (ci := 0) (v := .int lpe) (C := RX0) (T := TX0) (N := 10) hx hb hts iX0 hown hK hP 0 rfl rfl 0 (by decide) (hts (.fieldLink RX0 9 "PunchedTicket$Line" "people" "I") (List.mem_of_getElem? (i := 1) rfl)) (fun _ h9 => h9) rfl dX0_partSize_32 ?_
        refine lv_if_le (tgt := 41) hx hb dX0_partSize_35 (by decide) (fun c_4 => ?_) (fun c_4 => ?_)
        · have tc_4 := b_le rfl (show (0 : Int32).toInt = 0 by decide) c_4
          refine lv_iconst (v := 0) hx hb dX0_partSize_41 (by decide) ?_
          exact ret_i (post := (fun (r : Int32) (u : Unit) => (r.toInt = 4 ∧ n.toInt = 80 ∧ lpe.toInt < 5) ∨ (r.toInt = 6 ∧ n.toInt = 84 ∧ ltk.toInt < 6 ∧ 0 < lpe.toInt) ∨ (r.toInt = 0 ∧ (n.toInt ≠ 80 ∨ 5 ≤ lpe.toInt) ∧ (n.toInt ≠ 84 ∨ 6 ≤ ltk.toInt ∨ lpe.toInt ≤ 0)))) (W1 := (fun u => [(h0, .inr (0, [.int lpe, .int ltk, .ref lho, .ref lli, .ref lki, .ref lfd, .ref lfr, .ref lto, .ref lse, .ref lhl]))])) () hx hb hr hlocks rfl hQ hK hP hD hS ⟨by decide, by decide⟩ dX0_partSize_42 (show ((0 : Int) = 4 ∧ n.toInt = 80 ∧ lpe.toInt < 5) ∨ ((0 : Int) = 6 ∧ n.toInt = 84 ∧ ltk.toInt < 6 ∧ 0 < lpe.toInt) ∨ ((0 : Int) = 0 ∧ (n.toInt ≠ 80 ∨ 5 ≤ lpe.toInt) ∧ (n.toInt ≠ 84 ∨ 6 ≤ ltk.toInt ∨ lpe.toInt ≤ 0)) by omega)
        · have tc_4 := b_nle rfl (show (0 : Int32).toInt = 0 by decide) c_4
          refine lv_bipush (v := 6) hx hb dX0_partSize_38 (by decide) ?_
          exact ret_i (post := (fun (r : Int32) (u : Unit) => (r.toInt = 4 ∧ n.toInt = 80 ∧ lpe.toInt < 5) ∨ (r.toInt = 6 ∧ n.toInt = 84 ∧ ltk.toInt < 6 ∧ 0 < lpe.toInt) ∨ (r.toInt = 0 ∧ (n.toInt ≠ 80 ∨ 5 ≤ lpe.toInt) ∧ (n.toInt ≠ 84 ∨ 6 ≤ ltk.toInt ∨ lpe.toInt ≤ 0)))) (W1 := (fun u => [(h0, .inr (0, [.int lpe, .int ltk, .ref lho, .ref lli, .ref lki, .ref lfd, .ref lfr, .ref lto, .ref lse, .ref lhl]))])) () hx hb hr hlocks rfl hQ hK hP hD hS ⟨by decide, by decide⟩ dX0_partSize_40 (show ((6 : Int) = 4 ∧ n.toInt = 80 ∧ lpe.toInt < 5) ∨ ((6 : Int) = 6 ∧ n.toInt = 84 ∧ ltk.toInt < 6 ∧ 0 < lpe.toInt) ∨ ((6 : Int) = 0 ∧ (n.toInt ≠ 80 ∨ 5 ≤ lpe.toInt) ∧ (n.toInt ≠ 84 ∨ 6 ≤ ltk.toInt ∨ lpe.toInt ≤ 0)) by omega)
  · have tc_1 := b_eq rfl (show (80 : Int32).toInt = 80 by decide) c_1
    refine lv_aload_n hx hb dX0_partSize_6 rfl (lv_at hl 0 rfl) ?_
    refine va_get (D := D) (ci := 0) (v := .int lpe) (C := RX0) (T := TX0) (N := 10) hx hb hts iX0 hown hK hP 0 rfl rfl 0 (by decide) (hts (.fieldLink RX0 9 "PunchedTicket$Line" "people" "I") (List.mem_of_getElem? (i := 1) rfl)) (fun _ h9 => h9) rfl dX0_partSize_7 ?_
    refine lv_iconst (v := 5) hx hb dX0_partSize_10 (by decide) ?_
    refine lv_icmp_ge (tgt := 16) hx hb dX0_partSize_11 (by decide) (fun c_5 => ?_) (fun c_5 => ?_)
    · have tc_5 := b_le (show (5 : Int32).toInt = 5 by decide) rfl c_5
      refine lv_iload_n hx hb dX0_partSize_16 rfl (lv_at hl 1 rfl) ?_
      refine lv_bipush (v := 84) hx hb dX0_partSize_17 (by decide) ?_
      refine lv_icmp_ne (tgt := 41) hx hb dX0_partSize_19 (by decide) (fun c_6 => ?_) (fun c_6 => ?_)
      · have tc_6 := b_ne rfl (show (84 : Int32).toInt = 84 by decide) c_6
        refine lv_iconst (v := 0) hx hb dX0_partSize_41 (by decide) ?_
        exact ret_i (post := (fun (r : Int32) (u : Unit) => (r.toInt = 4 ∧ n.toInt = 80 ∧ lpe.toInt < 5) ∨ (r.toInt = 6 ∧ n.toInt = 84 ∧ ltk.toInt < 6 ∧ 0 < lpe.toInt) ∨ (r.toInt = 0 ∧ (n.toInt ≠ 80 ∨ 5 ≤ lpe.toInt) ∧ (n.toInt ≠ 84 ∨ 6 ≤ ltk.toInt ∨ lpe.toInt ≤ 0)))) (W1 := (fun u => [(h0, .inr (0, [.int lpe, .int ltk, .ref lho, .ref lli, .ref lki, .ref lfd, .ref lfr, .ref lto, .ref lse, .ref lhl]))])) () hx hb hr hlocks rfl hQ hK hP hD hS ⟨by decide, by decide⟩ dX0_partSize_42 (show ((0 : Int) = 4 ∧ n.toInt = 80 ∧ lpe.toInt < 5) ∨ ((0 : Int) = 6 ∧ n.toInt = 84 ∧ ltk.toInt < 6 ∧ 0 < lpe.toInt) ∨ ((0 : Int) = 0 ∧ (n.toInt ≠ 80 ∨ 5 ≤ lpe.toInt) ∧ (n.toInt ≠ 84 ∨ 6 ≤ ltk.toInt ∨ lpe.toInt ≤ 0)) by omega)
      · have tc_6 := b_eq rfl (show (84 : Int32).toInt = 84 by decide) c_6
        exfalso; omega
    · have tc_5 := b_nle (show (5 : Int32).toInt = 5 by decide) rfl c_5
      refine lv_iconst (v := 4) hx hb dX0_partSize_14 (by decide) ?_
      exact ret_i (post := (fun (r : Int32) (u : Unit) => (r.toInt = 4 ∧ n.toInt = 80 ∧ lpe.toInt < 5) ∨ (r.toInt = 6 ∧ n.toInt = 84 ∧ ltk.toInt < 6 ∧ 0 < lpe.toInt) ∨ (r.toInt = 0 ∧ (n.toInt ≠ 80 ∨ 5 ≤ lpe.toInt) ∧ (n.toInt ≠ 84 ∨ 6 ≤ ltk.toInt ∨ lpe.toInt ≤ 0)))) (W1 := (fun u => [(h0, .inr (0, [.int lpe, .int ltk, .ref lho, .ref lli, .ref lki, .ref lfd, .ref lfr, .ref lto, .ref lse, .ref lhl]))])) () hx hb hr hlocks rfl hQ hK hP hD hS ⟨by decide, by decide⟩ dX0_partSize_15 (show ((4 : Int) = 4 ∧ n.toInt = 80 ∧ lpe.toInt < 5) ∨ ((4 : Int) = 6 ∧ n.toInt = 84 ∧ ltk.toInt < 6 ∧ 0 < lpe.toInt) ∨ ((4 : Int) = 0 ∧ (n.toInt ≠ 80 ∨ 5 ≤ lpe.toInt) ∧ (n.toInt ≠ 84 ∨ 6 ≤ ltk.toInt ∨ lpe.toInt ≤ 0)) by omega)

set_option maxHeartbeats 600000 in
set_option maxRecDepth 100000 in
theorem t_X0_figureFits (l : Launch) (D : va_G) (cI cZ cM : ClassId) (h0 : Nat) (tx : Nat) (n : Int32) (k : Int32) (z : Int32) (lpe : Int32) (ltk : Int32) (lho : Nat) (lli : Nat) (lki : Nat) (lfd : Nat) (lfr : Nat) (lto : Nat) (lse : Nat) (lhl : Nat) (Ftx : Nat → Int32) (sz : Nat) (hnk : n.toInt + k.toInt ≤ 63) (hTx : TxOk Ftx) (h_n : 0 ≤ n.toInt ∧ n.toInt ≤ 63) (h_k : 1 ≤ k.toInt ∧ k.toInt ≤ 5) : Ci l yX0_figureFits wsX0_figureFits ({ frames := 0, cells := 0, slots := 0, locals := 0 } : Room) D cI cZ cM [.ref h0, .ref tx, .int n, .int k, .int z] [(h0, .inr (0, [.int lpe, .int ltk, .ref lho, .ref lli, .ref lki, .ref lfd, .ref lfr, .ref lto, .ref lse, .ref lhl])), (tx, .inl (cI, 64, .inl Ftx))] sz (fun (r : Int32) (u : Unit) => (r.toInt = 1 ∧ fitP Ftx n.toInt lpe.toInt z.toInt k.toInt) ∨ (r.toInt = 0 ∧ ¬ fitP Ftx n.toInt lpe.toInt z.toInt k.toInt)) (fun u => [(h0, .inr (0, [.int lpe, .int ltk, .ref lho, .ref lli, .ref lki, .ref lfd, .ref lfr, .ref lto, .ref lse, .ref lhl])), (tx, .inl (cI, 64, .inl Ftx))]) 0 0 := by
  refine begins (l := l) (y := yX0_figureFits) (ws := wsX0_figureFits) (av := [.ref h0, .ref tx, .int n, .int k, .int z]) (Qc := fun A => va_Qi (fun (r : Int32) (u : Unit) => (r.toInt = 1 ∧ fitP Ftx n.toInt lpe.toInt z.toInt k.toInt) ∨ (r.toInt = 0 ∧ ¬ fitP Ftx n.toInt lpe.toInt z.toInt k.toInt)) (fun u => Wd D cI cZ cM A ((fun u => [(h0, .inr (0, [.int lpe, .int ltk, .ref lho, .ref lli, .ref lki, .ref lfd, .ref lfr, .ref lto, .ref lse, .ref lhl])), (tx, .inl (cI, 64, .inl Ftx))]) u)) A) cX0_figureFits 6 (some .boolean) (by decide) rfl (Nat.le_of_ble_eq_true rfl) ?_
  intro p e s m args below meth c R Q A ls hBd hR hQ hA hS hK hP hD hl
  obtain ⟨hx, hb, hr, hts, hown, hlocks, hin, hml⟩ := hBd
  have hl : lv_has ls 6 [(0, .ref h0), (1, .ref tx), (2, .int n), (3, .int k), (4, .int z)] := hl
  have iX0 : ∀ w ∈ wsX00, w ∈ wsX0_figureFits := fun _ h => List.mem_cons_of_mem _ (List.mem_append_right _ h)
  obtain ⟨h_na, h_nb⟩ := h_n
  obtain ⟨h_ka, h_kb⟩ := h_k
  refine lv_aload_n hx hb dX0_figureFits_0 rfl (lv_at hl 1 rfl) ?_
  refine lv_iload_n hx hb dX0_figureFits_1 rfl (lv_at hl 2 rfl) ?_
  refine lv_iload_n hx hb dX0_figureFits_2 rfl (lv_at hl 3 rfl) ?_
  refine lv_iadd hx hb dX0_figureFits_3 ?_
  refine lv_topi (fun v_1 ev_1 => ?_)
  have tv_1 : v_1.toInt = n.toInt + k.toInt := by rw [ev_1]; exact ti_add (x := n) (y := k) (show -2147483648 ≤ n.toInt + k.toInt by omega) (show n.toInt + k.toInt < 2147483648 by omega)
  refine va_iald hx hb hK hP 1 0 rfl rfl (vp_in_iff.mpr ⟨by omega, by omega⟩) dX0_figureFits_4 ?_
  refine lv_topi (fun v_2 ev_2 => ?_)
  have txv_2 := hTx v_1.toNatClampNeg
  rw [← ev_2] at txv_2
  obtain ⟨txv_2a, txv_2b⟩ := txv_2
  have hdv_2 : dg Ftx (n.toInt + k.toInt) = v_2.toInt - 48 := by unfold dg; rw [ev_2, cl_of, show (n.toInt + k.toInt).toNat = v_1.toInt.toNat by omega]
  refine lv_bipush (v := 48) hx hb dX0_figureFits_5 (by decide) ?_
  refine lv_isub hx hb dX0_figureFits_7 ?_
  refine lv_topi (fun v_3 ev_3 => ?_)
  have tv_3 : v_3.toInt = v_2.toInt - (48 : Int) := by rw [ev_3]; exact ti_sub (x := v_2) (y := 48) (show -2147483648 ≤ v_2.toInt - (48 : Int) by omega) (show v_2.toInt - (48 : Int) < 2147483648 by omega)
  refine lv_istore (lv' := [(5, .int v_3), (0, .ref h0), (1, .ref tx), (2, .int n), (3, .int k), (4, .int z)]) hx hb dX0_figureFits_8 hl (by decide) rfl (fun ls hl => ?_)
  refine lv_iload hx hb dX0_figureFits_10 (lv_at hl 0 rfl) ?_
  refine lv_if_lt (tgt := 22) hx hb dX0_figureFits_12 (by decide) (fun c_4 => ?_) (fun c_4 => ?_)
  · have tc_4 := b_lt rfl (show (0 : Int32).toInt = 0 by decide) c_4
    refine lv_iconst (v := 0) hx hb dX0_figureFits_22 (by decide) ?_
    exact ret_i (post := (fun (r : Int32) (u : Unit) => (r.toInt = 1 ∧ fitP Ftx n.toInt lpe.toInt z.toInt k.toInt) ∨ (r.toInt = 0 ∧ ¬ fitP Ftx n.toInt lpe.toInt z.toInt k.toInt))) (W1 := (fun u => [(h0, .inr (0, [.int lpe, .int ltk, .ref lho, .ref lli, .ref lki, .ref lfd, .ref lfr, .ref lto, .ref lse, .ref lhl])), (tx, .inl (cI, 64, .inl Ftx))])) () hx hb hr hlocks rfl hQ hK hP hD hS ⟨by decide, by decide⟩ dX0_figureFits_23 (show ((0 : Int) = 1 ∧ fitP Ftx n.toInt lpe.toInt z.toInt k.toInt) ∨ ((0 : Int) = 0 ∧ ¬ fitP Ftx n.toInt lpe.toInt z.toInt k.toInt) from (by unfold fitP; omega))
  · have tc_4 := b_nlt rfl (show (0 : Int32).toInt = 0 by decide) c_4
    refine lv_iload hx hb dX0_figureFits_15 (lv_at hl 0 rfl) ?_
    refine lv_bipush (v := 9) hx hb dX0_figureFits_17 (by decide) ?_
    refine lv_icmp_le (tgt := 24) hx hb dX0_figureFits_19 (by decide) (fun c_5 => ?_) (fun c_5 => ?_)
    · have tc_5 := b_le rfl (show (9 : Int32).toInt = 9 by decide) c_5
      refine lv_iload hx hb dX0_figureFits_24 (lv_at hl 5 rfl) ?_
      refine lv_iconst (v := 4) hx hb dX0_figureFits_26 (by decide) ?_
      refine lv_icmp_ne (tgt := 47) hx hb dX0_figureFits_27 (by decide) (fun c_6 => ?_) (fun c_6 => ?_)
      · have tc_6 := b_ne rfl (show (4 : Int32).toInt = 4 by decide) c_6
        refine lv_iload_n hx hb dX0_figureFits_47 rfl (lv_at hl 4 rfl) ?_
        refine lv_iconst (v := 3) hx hb dX0_figureFits_48 (by decide) ?_
        refine lv_icmp_ne (tgt := 71) hx hb dX0_figureFits_49 (by decide) (fun c_7 => ?_) (fun c_7 => ?_)
        · have tc_7 := b_ne rfl (show (3 : Int32).toInt = 3 by decide) c_7
          refine lv_iload_n hx hb dX0_figureFits_71 rfl (lv_at hl 4 rfl) ?_
          refine lv_iconst (v := 5) hx hb dX0_figureFits_72 (by decide) ?_
          refine lv_icmp_ne (tgt := 85) hx hb dX0_figureFits_73 (by decide) (fun c_8 => ?_) (fun c_8 => ?_)
          · have tc_8 := b_ne rfl (show (5 : Int32).toInt = 5 by decide) c_8
            refine lv_iconst (v := 1) hx hb dX0_figureFits_85 (by decide) ?_
            refine lv_goto (tgt := 90) hx hb dX0_figureFits_86 (by decide) ?_
            exact ret_i (post := (fun (r : Int32) (u : Unit) => (r.toInt = 1 ∧ fitP Ftx n.toInt lpe.toInt z.toInt k.toInt) ∨ (r.toInt = 0 ∧ ¬ fitP Ftx n.toInt lpe.toInt z.toInt k.toInt))) (W1 := (fun u => [(h0, .inr (0, [.int lpe, .int ltk, .ref lho, .ref lli, .ref lki, .ref lfd, .ref lfr, .ref lto, .ref lse, .ref lhl])), (tx, .inl (cI, 64, .inl Ftx))])) () hx hb hr hlocks rfl hQ hK hP hD hS ⟨by decide, by decide⟩ dX0_figureFits_90 (show ((1 : Int) = 1 ∧ fitP Ftx n.toInt lpe.toInt z.toInt k.toInt) ∨ ((1 : Int) = 0 ∧ ¬ fitP Ftx n.toInt lpe.toInt z.toInt k.toInt) from (by unfold fitP; omega))
          · have tc_8 := b_eq rfl (show (5 : Int32).toInt = 5 by decide) c_8
            refine lv_iload hx hb dX0_figureFits_76 (lv_at hl 0 rfl) ?_
            refine lv_aload_n hx hb dX0_figureFits_78 rfl (lv_at hl 1 rfl) ?_
            refine va_get (D := D) (ci := 0) (v := .int lpe) (C := RX0) (T := TX0) (N := 10) hx hb hts iX0 hown hK hP 0 rfl rfl 0 (by decide) (hts (.fieldLink RX0 9 "PunchedTicket$Line" "people" "I") (List.mem_of_getElem? (i := 1) rfl)) (fun _ h9 => h9) rfl dX0_figureFits_79 ?_
            refine lv_icmp_ge (tgt := 89) hx hb dX0_figureFits_82 (by decide) (fun c_9 => ?_) (fun c_9 => ?_)
            · have tc_9 := b_le rfl rfl c_9
              refine lv_iconst (v := 0) hx hb dX0_figureFits_89 (by decide) ?_
              exact ret_i (post := (fun (r : Int32) (u : Unit) => (r.toInt = 1 ∧ fitP Ftx n.toInt lpe.toInt z.toInt k.toInt) ∨ (r.toInt = 0 ∧ ¬ fitP Ftx n.toInt lpe.toInt z.toInt k.toInt))) (W1 := (fun u => [(h0, .inr (0, [.int lpe, .int ltk, .ref lho, .ref lli, .ref lki, .ref lfd, .ref lfr, .ref lto, .ref lse, .ref lhl])), (tx, .inl (cI, 64, .inl Ftx))])) () hx hb hr hlocks rfl hQ hK hP hD hS ⟨by decide, by decide⟩ dX0_figureFits_90 (show ((0 : Int) = 1 ∧ fitP Ftx n.toInt lpe.toInt z.toInt k.toInt) ∨ ((0 : Int) = 0 ∧ ¬ fitP Ftx n.toInt lpe.toInt z.toInt k.toInt) from (by unfold fitP; omega))
            · have tc_9 := b_nle rfl rfl c_9
              refine lv_iconst (v := 1) hx hb dX0_figureFits_85 (by decide) ?_
              refine lv_goto (tgt := 90) hx hb dX0_figureFits_86 (by decide) ?_
              exact ret_i (post := (fun (r : Int32) (u : Unit) => (r.toInt = 1 ∧ fitP Ftx n.toInt lpe.toInt z.toInt k.toInt) ∨ (r.toInt = 0 ∧ ¬ fitP Ftx n.toInt lpe.toInt z.toInt k.toInt))) (W1 := (fun u => [(h0, .inr (0, [.int lpe, .int ltk, .ref lho, .ref lli, .ref lki, .ref lfd, .ref lfr, .ref lto, .ref lse, .ref lhl])), (tx, .inl (cI, 64, .inl Ftx))])) () hx hb hr hlocks rfl hQ hK hP hD hS ⟨by decide, by decide⟩ dX0_figureFits_90 (show ((1 : Int) = 1 ∧ fitP Ftx n.toInt lpe.toInt z.toInt k.toInt) ∨ ((1 : Int) = 0 ∧ ¬ fitP Ftx n.toInt lpe.toInt z.toInt k.toInt) from (by unfold fitP; omega))
        · have tc_7 := b_eq rfl (show (3 : Int32).toInt = 3 by decide) c_7
          refine lv_iload hx hb dX0_figureFits_52 (lv_at hl 0 rfl) ?_
          refine lv_aload_n hx hb dX0_figureFits_54 rfl (lv_at hl 2 rfl) ?_
          refine lv_iload_n hx hb dX0_figureFits_55 rfl (lv_at hl 3 rfl) ?_
          refine lv_iconst (v := 2) hx hb dX0_figureFits_56 (by decide) ?_
          refine lv_iadd hx hb dX0_figureFits_57 ?_
          refine lv_topi (fun v_10 ev_10 => ?_)
          have tv_10 : v_10.toInt = n.toInt + (2 : Int) := by rw [ev_10]; exact ti_add (x := n) (y := 2) (show -2147483648 ≤ n.toInt + (2 : Int) by omega) (show n.toInt + (2 : Int) < 2147483648 by omega)
          refine va_iald hx hb hK hP 1 0 rfl rfl (vp_in_iff.mpr ⟨by omega, by omega⟩) dX0_figureFits_58 ?_
          refine lv_topi (fun v_11 ev_11 => ?_)
          have txv_11 := hTx v_10.toNatClampNeg
          rw [← ev_11] at txv_11
          obtain ⟨txv_11a, txv_11b⟩ := txv_11
          have hdv_11 : dg Ftx (n.toInt + 2) = v_11.toInt - 48 := by unfold dg; rw [ev_11, cl_of, show (n.toInt + 2).toNat = v_10.toInt.toNat by omega]
          refine lv_bipush (v := 48) hx hb dX0_figureFits_59 (by decide) ?_
          refine lv_isub hx hb dX0_figureFits_61 ?_
          refine lv_topi (fun v_12 ev_12 => ?_)
          have tv_12 : v_12.toInt = v_11.toInt - (48 : Int) := by rw [ev_12]; exact ti_sub (x := v_11) (y := 48) (show -2147483648 ≤ v_11.toInt - (48 : Int) by omega) (show v_11.toInt - (48 : Int) < 2147483648 by omega)
          refine lv_icmp_eq (tgt := 69) hx hb dX0_figureFits_62 (by decide) (fun c_13 => ?_) (fun c_13 => ?_)
          · have tc_13 := b_eq rfl rfl c_13
            refine lv_iconst (v := 0) hx hb dX0_figureFits_69 (by decide) ?_
            exact ret_i (post := (fun (r : Int32) (u : Unit) => (r.toInt = 1 ∧ fitP Ftx n.toInt lpe.toInt z.toInt k.toInt) ∨ (r.toInt = 0 ∧ ¬ fitP Ftx n.toInt lpe.toInt z.toInt k.toInt))) (W1 := (fun u => [(h0, .inr (0, [.int lpe, .int ltk, .ref lho, .ref lli, .ref lki, .ref lfd, .ref lfr, .ref lto, .ref lse, .ref lhl])), (tx, .inl (cI, 64, .inl Ftx))])) () hx hb hr hlocks rfl hQ hK hP hD hS ⟨by decide, by decide⟩ dX0_figureFits_70 (show ((0 : Int) = 1 ∧ fitP Ftx n.toInt lpe.toInt z.toInt k.toInt) ∨ ((0 : Int) = 0 ∧ ¬ fitP Ftx n.toInt lpe.toInt z.toInt k.toInt) from (by unfold fitP; omega))
          · have tc_13 := b_ne rfl rfl c_13
            refine lv_iconst (v := 1) hx hb dX0_figureFits_65 (by decide) ?_
            refine lv_goto (tgt := 70) hx hb dX0_figureFits_66 (by decide) ?_
            exact ret_i (post := (fun (r : Int32) (u : Unit) => (r.toInt = 1 ∧ fitP Ftx n.toInt lpe.toInt z.toInt k.toInt) ∨ (r.toInt = 0 ∧ ¬ fitP Ftx n.toInt lpe.toInt z.toInt k.toInt))) (W1 := (fun u => [(h0, .inr (0, [.int lpe, .int ltk, .ref lho, .ref lli, .ref lki, .ref lfd, .ref lfr, .ref lto, .ref lse, .ref lhl])), (tx, .inl (cI, 64, .inl Ftx))])) () hx hb hr hlocks rfl hQ hK hP hD hS ⟨by decide, by decide⟩ dX0_figureFits_70 (show ((1 : Int) = 1 ∧ fitP Ftx n.toInt lpe.toInt z.toInt k.toInt) ∨ ((1 : Int) = 0 ∧ ¬ fitP Ftx n.toInt lpe.toInt z.toInt k.toInt) from (by unfold fitP; omega))
      · have tc_6 := b_eq rfl (show (4 : Int32).toInt = 4 by decide) c_6
        refine lv_iload_n hx hb dX0_figureFits_30 rfl (lv_at hl 4 rfl) ?_
        refine lv_iconst (v := 3) hx hb dX0_figureFits_31 (by decide) ?_
        refine lv_icmp_ne (tgt := 41) hx hb dX0_figureFits_32 (by decide) (fun c_14 => ?_) (fun c_14 => ?_)
        · have tc_14 := b_ne rfl (show (3 : Int32).toInt = 3 by decide) c_14
          refine lv_iconst (v := 1) hx hb dX0_figureFits_41 (by decide) ?_
          refine lv_goto (tgt := 46) hx hb dX0_figureFits_42 (by decide) ?_
          exact ret_i (post := (fun (r : Int32) (u : Unit) => (r.toInt = 1 ∧ fitP Ftx n.toInt lpe.toInt z.toInt k.toInt) ∨ (r.toInt = 0 ∧ ¬ fitP Ftx n.toInt lpe.toInt z.toInt k.toInt))) (W1 := (fun u => [(h0, .inr (0, [.int lpe, .int ltk, .ref lho, .ref lli, .ref lki, .ref lfd, .ref lfr, .ref lto, .ref lse, .ref lhl])), (tx, .inl (cI, 64, .inl Ftx))])) () hx hb hr hlocks rfl hQ hK hP hD hS ⟨by decide, by decide⟩ dX0_figureFits_46 (show ((1 : Int) = 1 ∧ fitP Ftx n.toInt lpe.toInt z.toInt k.toInt) ∨ ((1 : Int) = 0 ∧ ¬ fitP Ftx n.toInt lpe.toInt z.toInt k.toInt) from (by unfold fitP; omega))
        · have tc_14 := b_eq rfl (show (3 : Int32).toInt = 3 by decide) c_14
          refine lv_iload hx hb dX0_figureFits_35 (lv_at hl 0 rfl) ?_
          refine lv_iconst (v := 3) hx hb dX0_figureFits_37 (by decide) ?_
          refine lv_icmp_gt (tgt := 45) hx hb dX0_figureFits_38 (by decide) (fun c_15 => ?_) (fun c_15 => ?_)
          · have tc_15 := b_lt (show (3 : Int32).toInt = 3 by decide) rfl c_15
            refine lv_iconst (v := 0) hx hb dX0_figureFits_45 (by decide) ?_
            exact ret_i (post := (fun (r : Int32) (u : Unit) => (r.toInt = 1 ∧ fitP Ftx n.toInt lpe.toInt z.toInt k.toInt) ∨ (r.toInt = 0 ∧ ¬ fitP Ftx n.toInt lpe.toInt z.toInt k.toInt))) (W1 := (fun u => [(h0, .inr (0, [.int lpe, .int ltk, .ref lho, .ref lli, .ref lki, .ref lfd, .ref lfr, .ref lto, .ref lse, .ref lhl])), (tx, .inl (cI, 64, .inl Ftx))])) () hx hb hr hlocks rfl hQ hK hP hD hS ⟨by decide, by decide⟩ dX0_figureFits_46 (show ((0 : Int) = 1 ∧ fitP Ftx n.toInt lpe.toInt z.toInt k.toInt) ∨ ((0 : Int) = 0 ∧ ¬ fitP Ftx n.toInt lpe.toInt z.toInt k.toInt) from (by unfold fitP; omega))
          · have tc_15 := b_nlt (show (3 : Int32).toInt = 3 by decide) rfl c_15
            refine lv_iconst (v := 1) hx hb dX0_figureFits_41 (by decide) ?_
            refine lv_goto (tgt := 46) hx hb dX0_figureFits_42 (by decide) ?_
            exact ret_i (post := (fun (r : Int32) (u : Unit) => (r.toInt = 1 ∧ fitP Ftx n.toInt lpe.toInt z.toInt k.toInt) ∨ (r.toInt = 0 ∧ ¬ fitP Ftx n.toInt lpe.toInt z.toInt k.toInt))) (W1 := (fun u => [(h0, .inr (0, [.int lpe, .int ltk, .ref lho, .ref lli, .ref lki, .ref lfd, .ref lfr, .ref lto, .ref lse, .ref lhl])), (tx, .inl (cI, 64, .inl Ftx))])) () hx hb hr hlocks rfl hQ hK hP hD hS ⟨by decide, by decide⟩ dX0_figureFits_46 (show ((1 : Int) = 1 ∧ fitP Ftx n.toInt lpe.toInt z.toInt k.toInt) ∨ ((1 : Int) = 0 ∧ ¬ fitP Ftx n.toInt lpe.toInt z.toInt k.toInt) from (by unfold fitP; omega))
    · have tc_5 := b_nle rfl (show (9 : Int32).toInt = 9 by decide) c_5
      refine lv_iconst (v := 0) hx hb dX0_figureFits_22 (by decide) ?_
      exact ret_i (post := (fun (r : Int32) (u : Unit) => (r.toInt = 1 ∧ fitP Ftx n.toInt lpe.toInt z.toInt k.toInt) ∨ (r.toInt = 0 ∧ ¬ fitP Ftx n.toInt lpe.toInt z.toInt k.toInt))) (W1 := (fun u => [(h0, .inr (0, [.int lpe, .int ltk, .ref lho, .ref lli, .ref lki, .ref lfd, .ref lfr, .ref lto, .ref lse, .ref lhl])), (tx, .inl (cI, 64, .inl Ftx))])) () hx hb hr hlocks rfl hQ hK hP hD hS ⟨by decide, by decide⟩ dX0_figureFits_23 (show ((0 : Int) = 1 ∧ fitP Ftx n.toInt lpe.toInt z.toInt k.toInt) ∨ ((0 : Int) = 0 ∧ ¬ fitP Ftx n.toInt lpe.toInt z.toInt k.toInt) from (by unfold fitP; omega))

set_option maxHeartbeats 600000 in
set_option maxRecDepth 100000 in
theorem t_X0_partFault (l : Launch) (D : va_G) (cI cZ cM : ClassId) (h0 : Nat) (tx : Nat) (le : Int32) (n : Int32) (z : Int32) (lpe : Int32) (ltk : Int32) (lho : Nat) (lli : Nat) (lki : Nat) (lfd : Nat) (lfr : Nat) (lto : Nat) (lse : Nat) (lhl : Nat) (Ftx : Nat → Int32) (sz : Nat) (hTx : TxOk Ftx) (h_le : 0 ≤ le.toInt ∧ le.toInt ≤ 64) (h_n : 0 ≤ n.toInt ∧ n.toInt ≤ 63) (h_z : 4 ≤ z.toInt ∧ z.toInt ≤ 6) : Ci l yX0_partFault wsX0_partFault ({ frames := 1, cells := 0, slots := 0, locals := 25 } : Room) D cI cZ cM [.ref h0, .ref tx, .int le, .int n, .int z] [(h0, .inr (0, [.int lpe, .int ltk, .ref lho, .ref lli, .ref lki, .ref lfd, .ref lfr, .ref lto, .ref lse, .ref lhl])), (tx, .inl (cI, 64, .inl Ftx))] sz (fun (r : Int32) (u : Unit) => r.toInt = pf Ftx le.toInt n.toInt lpe.toInt z.toInt 6 1 ∧ ((r.toInt = -9 ∧ n.toInt + z.toInt ≤ le.toInt) ∨ 0 ≤ r.toInt)) (fun u => [(h0, .inr (0, [.int lpe, .int ltk, .ref lho, .ref lli, .ref lki, .ref lfd, .ref lfr, .ref lto, .ref lse, .ref lhl])), (tx, .inl (cI, 64, .inl Ftx))]) 0 0 := by
  refine begins (l := l) (y := yX0_partFault) (ws := wsX0_partFault) (av := [.ref h0, .ref tx, .int le, .int n, .int z]) (Qc := fun A => va_Qi (fun (r : Int32) (u : Unit) => r.toInt = pf Ftx le.toInt n.toInt lpe.toInt z.toInt 6 1 ∧ ((r.toInt = -9 ∧ n.toInt + z.toInt ≤ le.toInt) ∨ 0 ≤ r.toInt)) (fun u => Wd D cI cZ cM A ((fun u => [(h0, .inr (0, [.int lpe, .int ltk, .ref lho, .ref lli, .ref lki, .ref lfd, .ref lfr, .ref lto, .ref lse, .ref lhl])), (tx, .inl (cI, 64, .inl Ftx))]) u)) A) cX0_partFault 7 (some .int) (by decide) rfl (Nat.le_of_ble_eq_true rfl) ?_
  intro p e s m args below meth c R Q A ls hBd hR hQ hA hS hK hP hD hl
  obtain ⟨hx, hb, hr, hts, hown, hlocks, hin, hml⟩ := hBd
  have hl : lv_has ls 7 [(0, .ref h0), (1, .ref tx), (2, .int le), (3, .int n), (4, .int z)] := hl
  have iX0 : ∀ w ∈ wsX00, w ∈ wsX0_partFault := fun _ h => List.mem_cons_of_mem _ (List.mem_append_right _ h)
  obtain ⟨h_lea, h_leb⟩ := h_le
  obtain ⟨h_na, h_nb⟩ := h_n
  obtain ⟨h_za, h_zb⟩ := h_z
  refine lv_iconst (v := 1) hx hb dX0_partFault_0 (by decide) ?_
  refine lv_istore (lv' := [(5, .int 1), (0, .ref h0), (1, .ref tx), (2, .int le), (3, .int n), (4, .int z)]) hx hb dX0_partFault_1 hl (by decide) rfl (fun ls hl => ?_)
  have LOOP_1 : ∀ (fu_1 : Nat) (x5 : Int32) (H : Heap) (locs : List Loc) (ls : Array Slot), (6 - x5.toInt).toNat < fu_1 → (1 ≤ x5.toInt ∧ x5.toInt ≤ 6) → (x5.toInt = 1 ∨ n.toInt + x5.toInt ≤ le.toInt) → (x5.toInt ≤ z.toInt) → (pf Ftx le.toInt n.toInt lpe.toInt z.toInt (7 - x5.toInt).toNat x5.toInt = pf Ftx le.toInt n.toInt lpe.toInt z.toInt 6 1) → va_P D vwCl [(h0, .inr (0, [.int lpe, .int ltk, .ref lho, .ref lli, .ref lki, .ref lfd, .ref lfr, .ref lto, .ref lse, .ref lhl])), (tx, .inl (cI, 64, .inl Ftx))] H → va_D A [(h0, .inr (0, [.int lpe, .int ltk, .ref lho, .ref lli, .ref lki, .ref lfd, .ref lfr, .ref lto, .ref lse, .ref lhl])), (tx, .inl (cI, 64, .inl Ftx))] → va_S A s.heap H locs → lv_has ls 7 [(0, .ref h0), (1, .ref tx), (2, .int le), (3, .int n), (4, .int z), (5, .int x5)] → W p l e R s m args below meth c H locs 0 0 Q (F0 m 3 ls []) := by
    intro fu_1
    induction fu_1 with
    | zero => intro x5 H locs ls hmu; exact absurd hmu (Nat.not_lt_zero _)
    | succ fu_1 ih =>
      intro x5 H locs ls hmu h_x5 hi1 hi2 hq hP hD hS hl
      obtain ⟨h_x5a, h_x5b⟩ := h_x5
      have ih_2 := ih
      clear ih
      refine lv_iload hx hb dX0_partFault_3 (lv_at hl 5 rfl) ?_
      refine lv_iload hx hb dX0_partFault_5 (lv_at hl 4 rfl) ?_
      refine lv_icmp_ge (tgt := 46) hx hb dX0_partFault_7 (by decide) (fun c_3 => ?_) (fun c_3 => ?_)
      · have tc_3 := b_le rfl rfl c_3
        refine lv_bipush (v := (-9)) hx hb dX0_partFault_46 (by decide) ?_
        exact ret_i (post := (fun (r : Int32) (u : Unit) => r.toInt = pf Ftx le.toInt n.toInt lpe.toInt z.toInt 6 1 ∧ ((r.toInt = -9 ∧ n.toInt + z.toInt ≤ le.toInt) ∨ 0 ≤ r.toInt))) (W1 := (fun u => [(h0, .inr (0, [.int lpe, .int ltk, .ref lho, .ref lli, .ref lki, .ref lfd, .ref lfr, .ref lto, .ref lse, .ref lhl])), (tx, .inl (cI, 64, .inl Ftx))])) () hx hb hr hlocks rfl hQ hK hP hD hS ⟨by decide, by decide⟩ dX0_partFault_48 (show (-9 : Int) = pf Ftx le.toInt n.toInt lpe.toInt z.toInt 6 1 ∧ (((-9 : Int) = -9 ∧ n.toInt + z.toInt ≤ le.toInt) ∨ 0 ≤ (-9 : Int)) from ⟨(pf_isEnd hq (by omega) (by omega)).symm, Or.inl ⟨by decide, by omega⟩⟩)
      · have tc_3 := b_nle rfl rfl c_3
        refine lv_iload_n hx hb dX0_partFault_10 rfl (lv_at hl 3 rfl) ?_
        refine lv_iload hx hb dX0_partFault_11 (lv_at hl 5 rfl) ?_
        refine lv_iadd hx hb dX0_partFault_13 ?_
        refine lv_topi (fun v_4 ev_4 => ?_)
        have tv_4 : v_4.toInt = n.toInt + x5.toInt := by rw [ev_4]; exact ti_add (x := n) (y := x5) (show -2147483648 ≤ n.toInt + x5.toInt by omega) (show n.toInt + x5.toInt < 2147483648 by omega)
        refine lv_istore (lv' := [(6, .int v_4), (0, .ref h0), (1, .ref tx), (2, .int le), (3, .int n), (4, .int z), (5, .int x5)]) hx hb dX0_partFault_14 hl (by decide) rfl (fun ls hl => ?_)
        refine lv_iload hx hb dX0_partFault_16 (lv_at hl 0 rfl) ?_
        refine lv_iload_n hx hb dX0_partFault_18 rfl (lv_at hl 3 rfl) ?_
        refine lv_icmp_lt (tgt := 24) hx hb dX0_partFault_19 (by decide) (fun c_5 => ?_) (fun c_5 => ?_)
        · have tc_5 := b_lt rfl rfl c_5
          refine lv_aload_n hx hb dX0_partFault_24 rfl (lv_at hl 1 rfl) ?_
          refine lv_aload_n hx hb dX0_partFault_25 rfl (lv_at hl 2 rfl) ?_
          refine lv_iload_n hx hb dX0_partFault_26 rfl (lv_at hl 4 rfl) ?_
          refine lv_iload hx hb dX0_partFault_27 (lv_at hl 6 rfl) ?_
          refine lv_iload hx hb dX0_partFault_29 (lv_at hl 5 rfl) ?_
          refine cV_i (As := [.ref tx, .int n, .int x5, .int z]) (rest := []) ⟨hx, hb, hml, hown, hts⟩ (t_X0_figureFits l D cI cZ cM h0 tx n x5 z lpe ltk lho lli lki lfd lfr lto lse lhl Ftx _ (show n.toInt + x5.toInt ≤ 63 by omega) hTx (show 0 ≤ n.toInt ∧ n.toInt ≤ 63 by omega) (show 1 ≤ x5.toInt ∧ x5.toInt ≤ 5 by omega)) (cwV 4 hts gX0_partFault_X0_figureFits rfl rfl rfl (by decide +kernel) ⟨by rw [hR]; decide, by rw [hR]; decide⟩) hK hP hD hS hA [0, 1] [] rfl rfl (by decide) (by decide) (by decide) rfl 0 rfl hl.1 rfl rfl (Nat.le_of_ble_eq_true rfl) dX0_partFault_31 ⟨by rw [hR]; decide, by rw [hR]; decide⟩ (fun r_6 u_7 H locs hw hP hD hS => ?_)
          have hP : va_P D vwCl [(h0, .inr (0, [.int lpe, .int ltk, .ref lho, .ref lli, .ref lki, .ref lfd, .ref lfr, .ref lto, .ref lse, .ref lhl])), (tx, .inl (cI, 64, .inl Ftx))] H := hP.sub [0, 1] rfl
          have hD : va_D A [(h0, .inr (0, [.int lpe, .int ltk, .ref lho, .ref lli, .ref lki, .ref lfd, .ref lfr, .ref lto, .ref lse, .ref lhl])), (tx, .inl (cI, 64, .inl Ftx))] := hD.sub [0, 1] (by decide) rfl
          refine W.widen (k := 0) (n := 0) (Nat.le_refl _) (Nat.le_refl _) ?_
          have hw : (r_6.toInt = 1 ∧ fitP Ftx n.toInt lpe.toInt z.toInt x5.toInt) ∨ (r_6.toInt = 0 ∧ ¬ fitP Ftx n.toInt lpe.toInt z.toInt x5.toInt) := hw
          have hw_8 := hw
          refine lv_if_ne (tgt := 40) hx hb dX0_partFault_34 (by decide) (fun c_9 => ?_) (fun c_9 => ?_)
          · have tc_9 := b_ne rfl (show (0 : Int32).toInt = 0 by decide) c_9
            have HFT := (hw_8.resolve_right (fun q => absurd q.1 (by omega))).2
            obtain ⟨v_10, ev_10⟩ : ∃ z : Int32, z = x5 + 1 := ⟨_, rfl⟩
            have tv_10 : v_10.toInt = x5.toInt + 1 := by rw [ev_10]; exact ti_add (x := x5) (y := 1) (show -2147483648 ≤ x5.toInt + 1 by omega) (show x5.toInt + 1 < 2147483648 by omega)
            refine lv_iinc (v := v_10) (lv' := [(5, .int v_10), (6, .int v_4), (0, .ref h0), (1, .ref tx), (2, .int le), (3, .int n), (4, .int z)]) hx hb dX0_partFault_40 hl (k := 6) rfl (by rw [ev_10]; rfl) (by decide) rfl (fun ls hl => ?_)
            refine lv_goto (tgt := 3) hx hb dX0_partFault_43 (by decide) ?_
            exact ih_2 v_10 _ _ _ (show (6 - v_10.toInt).toNat < fu_1 by omega) (show 1 ≤ v_10.toInt ∧ v_10.toInt ≤ 6 by omega) (show v_10.toInt = 1 ∨ n.toInt + v_10.toInt ≤ le.toInt by omega) (show v_10.toInt ≤ z.toInt by omega) (pf_step hq (by omega) (by omega) (by omega) HFT (show v_10.toInt = x5.toInt + 1 by omega)) hP hD hS (lv_sub hl [2, 3, 4, 5, 6, 0] rfl)
          · have tc_9 := b_eq rfl (show (0 : Int32).toInt = 0 by decide) c_9
            have HFB := (hw_8.resolve_left (fun q => absurd q.1 (by omega))).2
            refine lv_iload hx hb dX0_partFault_37 (lv_at hl 0 rfl) ?_
            exact ret_i (post := (fun (r : Int32) (u : Unit) => r.toInt = pf Ftx le.toInt n.toInt lpe.toInt z.toInt 6 1 ∧ ((r.toInt = -9 ∧ n.toInt + z.toInt ≤ le.toInt) ∨ 0 ≤ r.toInt))) (W1 := (fun u => [(h0, .inr (0, [.int lpe, .int ltk, .ref lho, .ref lli, .ref lki, .ref lfd, .ref lfr, .ref lto, .ref lse, .ref lhl])), (tx, .inl (cI, 64, .inl Ftx))])) () hx hb hr hlocks rfl hQ hK hP hD hS ⟨by decide, by decide⟩ dX0_partFault_39 (show v_4.toInt = pf Ftx le.toInt n.toInt lpe.toInt z.toInt 6 1 ∧ ((v_4.toInt = -9 ∧ n.toInt + z.toInt ≤ le.toInt) ∨ 0 ≤ v_4.toInt) from ⟨(by have h := pf_isBad hq (by omega) (by omega) (by omega) HFB; omega), Or.inr (by omega)⟩)
        · have tc_5 := b_nlt rfl rfl c_5
          refine lv_iload_n hx hb dX0_partFault_22 rfl (lv_at hl 3 rfl) ?_
          exact ret_i (post := (fun (r : Int32) (u : Unit) => r.toInt = pf Ftx le.toInt n.toInt lpe.toInt z.toInt 6 1 ∧ ((r.toInt = -9 ∧ n.toInt + z.toInt ≤ le.toInt) ∨ 0 ≤ r.toInt))) (W1 := (fun u => [(h0, .inr (0, [.int lpe, .int ltk, .ref lho, .ref lli, .ref lki, .ref lfd, .ref lfr, .ref lto, .ref lse, .ref lhl])), (tx, .inl (cI, 64, .inl Ftx))])) () hx hb hr hlocks rfl hQ hK hP hD hS ⟨by decide, by decide⟩ dX0_partFault_23 (show le.toInt = pf Ftx le.toInt n.toInt lpe.toInt z.toInt 6 1 ∧ ((le.toInt = -9 ∧ n.toInt + z.toInt ≤ le.toInt) ∨ 0 ≤ le.toInt) from ⟨(pf_isOut hq (by omega) (by omega) (by omega)).symm, Or.inr (by omega)⟩)
  exact LOOP_1 _ 1 _ _ _ (Nat.lt_succ_self _) (by decide) (show (1 : Int) = 1 ∨ n.toInt + (1 : Int) ≤ le.toInt by omega) (show (1 : Int) ≤ z.toInt by omega) (rfl) hP hD hS (lv_sub hl [1, 2, 3, 4, 5, 0] rfl)

set_option maxHeartbeats 600000 in
set_option maxRecDepth 100000 in
theorem t_X0_takePart (l : Launch) (D : va_G) (cI cZ cM : ClassId) (h0 : Nat) (tx : Nat) (n : Int32) (z : Int32) (lpe : Int32) (ltk : Int32) (lho : Nat) (lli : Nat) (lki : Nat) (lfd : Nat) (lfr : Nat) (lto : Nat) (lse : Nat) (lhl : Nat) (lFho : Nat → Int32) (lFli : Nat → Int32) (lFki : Nat → Int32) (lFfd : Nat → Int32) (lFfr : Nat → Int32) (lFto : Nat → Int32) (lFse : Nat → Int32) (lFhl : Nat → Int32) (Ftx : Nat → Int32) (sz : Nat) (hz : (z.toInt = 4 ∧ lpe.toInt < 5 ∧ n.toInt + 4 ≤ 64) ∨ (z.toInt = 6 ∧ ltk.toInt < 6 ∧ n.toInt + 6 ≤ 64)) (h_n : 0 ≤ n.toInt ∧ n.toInt ≤ 63) (h_lpe : 0 ≤ lpe.toInt ∧ lpe.toInt ≤ 5) (h_ltk : 0 ≤ ltk.toInt ∧ ltk.toInt ≤ 6) : Cv l yX0_takePart wsX0_takePart ({ frames := 0, cells := 0, slots := 0, locals := 0 } : Room) D cI cZ cM [.ref h0, .ref tx, .int n, .int z] [(h0, .inr (0, [.int lpe, .int ltk, .ref lho, .ref lli, .ref lki, .ref lfd, .ref lfr, .ref lto, .ref lse, .ref lhl])), (lho, .inl (cI, 5, .inl lFho)), (lli, .inl (cI, 5, .inl lFli)), (lki, .inl (cI, 5, .inl lFki)), (lfd, .inl (cI, 7, .inl lFfd)), (lfr, .inl (cI, 7, .inl lFfr)), (lto, .inl (cI, 7, .inl lFto)), (lse, .inl (cI, 7, .inl lFse)), (lhl, .inl (cI, 7, .inl lFhl)), (tx, .inl (cI, 64, .inl Ftx))] sz (fun (u : Int32 × Int32 × (Nat → Int32) × (Nat → Int32) × (Nat → Int32) × (Nat → Int32) × (Nat → Int32) × (Nat → Int32) × (Nat → Int32) × (Nat → Int32)) => (z.toInt = 4 → u.1.toInt = lpe.toInt + 1 ∧ u.2.1.toInt = ltk.toInt) ∧ (z.toInt = 6 → u.1.toInt = lpe.toInt ∧ u.2.1.toInt = ltk.toInt + 1) ∧ 0 ≤ u.1.toInt ∧ u.1.toInt ≤ 5 ∧ 0 ≤ u.2.1.toInt ∧ u.2.1.toInt ≤ 6) (fun u => [(h0, .inr (0, [.int u.1, .int u.2.1, .ref lho, .ref lli, .ref lki, .ref lfd, .ref lfr, .ref lto, .ref lse, .ref lhl])), (lho, .inl (cI, 5, .inl u.2.2.1)), (lli, .inl (cI, 5, .inl u.2.2.2.1)), (lki, .inl (cI, 5, .inl u.2.2.2.2.1)), (lfd, .inl (cI, 7, .inl u.2.2.2.2.2.1)), (lfr, .inl (cI, 7, .inl u.2.2.2.2.2.2.1)), (lto, .inl (cI, 7, .inl u.2.2.2.2.2.2.2.1)), (lse, .inl (cI, 7, .inl u.2.2.2.2.2.2.2.2.1)), (lhl, .inl (cI, 7, .inl u.2.2.2.2.2.2.2.2.2)), (tx, .inl (cI, 64, .inl Ftx))]) 0 0 := by
  refine begins (l := l) (y := yX0_takePart) (ws := wsX0_takePart) (av := [.ref h0, .ref tx, .int n, .int z]) (Qc := fun A => va_Qv (fun (u : Int32 × Int32 × (Nat → Int32) × (Nat → Int32) × (Nat → Int32) × (Nat → Int32) × (Nat → Int32) × (Nat → Int32) × (Nat → Int32) × (Nat → Int32)) => (z.toInt = 4 → u.1.toInt = lpe.toInt + 1 ∧ u.2.1.toInt = ltk.toInt) ∧ (z.toInt = 6 → u.1.toInt = lpe.toInt ∧ u.2.1.toInt = ltk.toInt + 1) ∧ 0 ≤ u.1.toInt ∧ u.1.toInt ≤ 5 ∧ 0 ≤ u.2.1.toInt ∧ u.2.1.toInt ≤ 6) (fun u => Wd D cI cZ cM A ((fun u => [(h0, .inr (0, [.int u.1, .int u.2.1, .ref lho, .ref lli, .ref lki, .ref lfd, .ref lfr, .ref lto, .ref lse, .ref lhl])), (lho, .inl (cI, 5, .inl u.2.2.1)), (lli, .inl (cI, 5, .inl u.2.2.2.1)), (lki, .inl (cI, 5, .inl u.2.2.2.2.1)), (lfd, .inl (cI, 7, .inl u.2.2.2.2.2.1)), (lfr, .inl (cI, 7, .inl u.2.2.2.2.2.2.1)), (lto, .inl (cI, 7, .inl u.2.2.2.2.2.2.2.1)), (lse, .inl (cI, 7, .inl u.2.2.2.2.2.2.2.2.1)), (lhl, .inl (cI, 7, .inl u.2.2.2.2.2.2.2.2.2)), (tx, .inl (cI, 64, .inl Ftx))]) u)) A) cX0_takePart 4 none (by decide) rfl (Nat.le_of_ble_eq_true rfl) ?_
  intro p e s m args below meth c R Q A ls hBd hR hQ hA hS hK hP hD hl
  obtain ⟨hx, hb, hr, hts, hown, hlocks, hin, hml⟩ := hBd
  have hl : lv_has ls 4 [(0, .ref h0), (1, .ref tx), (2, .int n), (3, .int z)] := hl
  have iX0 : ∀ w ∈ wsX00, w ∈ wsX0_takePart := fun _ h => List.mem_cons_of_mem _ (List.mem_append_right _ h)
  obtain ⟨h_na, h_nb⟩ := h_n
  obtain ⟨h_lpea, h_lpeb⟩ := h_lpe
  obtain ⟨h_ltka, h_ltkb⟩ := h_ltk
  refine lv_iload_n hx hb dX0_takePart_0 rfl (lv_at hl 3 rfl) ?_
  refine lv_iconst (v := 4) hx hb dX0_takePart_1 (by decide) ?_
  refine lv_icmp_ne (tgt := 69) hx hb dX0_takePart_2 (by decide) (fun c_1 => ?_) (fun c_1 => ?_)
  · have tc_1 := b_ne rfl (show (4 : Int32).toInt = 4 by decide) c_1
    refine lv_aload_n hx hb dX0_takePart_69 rfl (lv_at hl 0 rfl) ?_
    refine va_get (D := D) (ci := 0) (v := .ref lfd) (C := RX0) (T := TX0) (N := 10) hx hb hts iX0 hown hK hP 0 rfl rfl 5 (by decide) (hts (.fieldLink RX0 28 "PunchedTicket$Line" "forDay" "[I") (List.mem_of_getElem? (i := 5) rfl)) (fun _ h9 => h9) rfl dX0_takePart_70 ?_
    refine lv_aload_n hx hb dX0_takePart_73 rfl (lv_at hl 0 rfl) ?_
    refine va_get (D := D) (ci := 0) (v := .int ltk) (C := RX0) (T := TX0) (N := 10) hx hb hts iX0 hown hK hP 0 rfl rfl 1 (by decide) (hts (.fieldLink RX0 15 "PunchedTicket$Line" "tickets" "I") (List.mem_of_getElem? (i := 6) rfl)) (fun _ h9 => h9) rfl dX0_takePart_74 ?_
    refine lv_aload_n hx hb dX0_takePart_77 rfl (lv_at hl 1 rfl) ?_
    refine lv_iload_n hx hb dX0_takePart_78 rfl (lv_at hl 2 rfl) ?_
    refine lv_iconst (v := 1) hx hb dX0_takePart_79 (by decide) ?_
    refine lv_iadd hx hb dX0_takePart_80 ?_
    refine lv_topi (fun v_2 ev_2 => ?_)
    have tv_2 : v_2.toInt = n.toInt + (1 : Int) := by rw [ev_2]; exact ti_add (x := n) (y := 1) (show -2147483648 ≤ n.toInt + (1 : Int) by omega) (show n.toInt + (1 : Int) < 2147483648 by omega)
    refine va_iald hx hb hK hP 9 0 rfl rfl (vp_in_iff.mpr ⟨by omega, by omega⟩) dX0_takePart_81 ?_
    refine lv_topi (fun v_3 ev_3 => ?_)
    refine lv_bipush (v := 48) hx hb dX0_takePart_82 (by decide) ?_
    refine lv_isub hx hb dX0_takePart_84 ?_
    refine lv_topi (fun v_4 ev_4 => ?_)
    refine va_iast hx hb hK hP hD hS 4 0 rfl rfl (vp_in_iff.mpr ⟨by omega, by omega⟩) dX0_takePart_85 (fun H locs hP hD hS => ?_)
    obtain ⟨f_5, ef_5⟩ : ∃ g : Nat → Int32, upd lFfd (ltk : Int32).toNatClampNeg v_4 = g := ⟨_, rfl⟩
    rw [ef_5] at hP hD
    have hP : va_P D vwCl [(h0, .inr (0, [.int lpe, .int ltk, .ref lho, .ref lli, .ref lki, .ref lfd, .ref lfr, .ref lto, .ref lse, .ref lhl])), (lho, .inl (cI, 5, .inl lFho)), (lli, .inl (cI, 5, .inl lFli)), (lki, .inl (cI, 5, .inl lFki)), (lfd, .inl (cI, 7, .inl f_5)), (lfr, .inl (cI, 7, .inl lFfr)), (lto, .inl (cI, 7, .inl lFto)), (lse, .inl (cI, 7, .inl lFse)), (lhl, .inl (cI, 7, .inl lFhl)), (tx, .inl (cI, 64, .inl Ftx))] H := hP
    have hD : va_D A [(h0, .inr (0, [.int lpe, .int ltk, .ref lho, .ref lli, .ref lki, .ref lfd, .ref lfr, .ref lto, .ref lse, .ref lhl])), (lho, .inl (cI, 5, .inl lFho)), (lli, .inl (cI, 5, .inl lFli)), (lki, .inl (cI, 5, .inl lFki)), (lfd, .inl (cI, 7, .inl f_5)), (lfr, .inl (cI, 7, .inl lFfr)), (lto, .inl (cI, 7, .inl lFto)), (lse, .inl (cI, 7, .inl lFse)), (lhl, .inl (cI, 7, .inl lFhl)), (tx, .inl (cI, 64, .inl Ftx))] := hD
    refine lv_aload_n hx hb dX0_takePart_86 rfl (lv_at hl 0 rfl) ?_
    refine va_get (D := D) (ci := 0) (v := .ref lfr) (C := RX0) (T := TX0) (N := 10) hx hb hts iX0 hown hK hP 0 rfl rfl 6 (by decide) (hts (.fieldLink RX0 31 "PunchedTicket$Line" "from" "[I") (List.mem_of_getElem? (i := 7) rfl)) (fun _ h9 => h9) rfl dX0_takePart_87 ?_
    refine lv_aload_n hx hb dX0_takePart_90 rfl (lv_at hl 0 rfl) ?_
    refine va_get (D := D) (ci := 0) (v := .int ltk) (C := RX0) (T := TX0) (N := 10) hx hb hts iX0 hown hK hP 0 rfl rfl 1 (by decide) (hts (.fieldLink RX0 15 "PunchedTicket$Line" "tickets" "I") (List.mem_of_getElem? (i := 6) rfl)) (fun _ h9 => h9) rfl dX0_takePart_91 ?_
    refine lv_aload_n hx hb dX0_takePart_94 rfl (lv_at hl 1 rfl) ?_
    refine lv_iload_n hx hb dX0_takePart_95 rfl (lv_at hl 2 rfl) ?_
    refine lv_iconst (v := 2) hx hb dX0_takePart_96 (by decide) ?_
    refine lv_iadd hx hb dX0_takePart_97 ?_
    refine lv_topi (fun v_6 ev_6 => ?_)
    have tv_6 : v_6.toInt = n.toInt + (2 : Int) := by rw [ev_6]; exact ti_add (x := n) (y := 2) (show -2147483648 ≤ n.toInt + (2 : Int) by omega) (show n.toInt + (2 : Int) < 2147483648 by omega)
    refine va_iald hx hb hK hP 9 0 rfl rfl (vp_in_iff.mpr ⟨by omega, by omega⟩) dX0_takePart_98 ?_
    refine lv_topi (fun v_7 ev_7 => ?_)
    refine lv_bipush (v := 48) hx hb dX0_takePart_99 (by decide) ?_
    refine lv_isub hx hb dX0_takePart_101 ?_
    refine lv_topi (fun v_8 ev_8 => ?_)
    refine va_iast hx hb hK hP hD hS 5 0 rfl rfl (vp_in_iff.mpr ⟨by omega, by omega⟩) dX0_takePart_102 (fun H locs hP hD hS => ?_)
    obtain ⟨f_9, ef_9⟩ : ∃ g : Nat → Int32, upd lFfr (ltk : Int32).toNatClampNeg v_8 = g := ⟨_, rfl⟩
    rw [ef_9] at hP hD
    have hP : va_P D vwCl [(h0, .inr (0, [.int lpe, .int ltk, .ref lho, .ref lli, .ref lki, .ref lfd, .ref lfr, .ref lto, .ref lse, .ref lhl])), (lho, .inl (cI, 5, .inl lFho)), (lli, .inl (cI, 5, .inl lFli)), (lki, .inl (cI, 5, .inl lFki)), (lfd, .inl (cI, 7, .inl f_5)), (lfr, .inl (cI, 7, .inl f_9)), (lto, .inl (cI, 7, .inl lFto)), (lse, .inl (cI, 7, .inl lFse)), (lhl, .inl (cI, 7, .inl lFhl)), (tx, .inl (cI, 64, .inl Ftx))] H := hP
    have hD : va_D A [(h0, .inr (0, [.int lpe, .int ltk, .ref lho, .ref lli, .ref lki, .ref lfd, .ref lfr, .ref lto, .ref lse, .ref lhl])), (lho, .inl (cI, 5, .inl lFho)), (lli, .inl (cI, 5, .inl lFli)), (lki, .inl (cI, 5, .inl lFki)), (lfd, .inl (cI, 7, .inl f_5)), (lfr, .inl (cI, 7, .inl f_9)), (lto, .inl (cI, 7, .inl lFto)), (lse, .inl (cI, 7, .inl lFse)), (lhl, .inl (cI, 7, .inl lFhl)), (tx, .inl (cI, 64, .inl Ftx))] := hD
    refine lv_aload_n hx hb dX0_takePart_103 rfl (lv_at hl 0 rfl) ?_
    refine va_get (D := D) (ci := 0) (v := .ref lto) (C := RX0) (T := TX0) (N := 10) hx hb hts iX0 hown hK hP 0 rfl rfl 7 (by decide) (hts (.fieldLink RX0 34 "PunchedTicket$Line" "to" "[I") (List.mem_of_getElem? (i := 8) rfl)) (fun _ h9 => h9) rfl dX0_takePart_104 ?_
    refine lv_aload_n hx hb dX0_takePart_107 rfl (lv_at hl 0 rfl) ?_
    refine va_get (D := D) (ci := 0) (v := .int ltk) (C := RX0) (T := TX0) (N := 10) hx hb hts iX0 hown hK hP 0 rfl rfl 1 (by decide) (hts (.fieldLink RX0 15 "PunchedTicket$Line" "tickets" "I") (List.mem_of_getElem? (i := 6) rfl)) (fun _ h9 => h9) rfl dX0_takePart_108 ?_
    refine lv_aload_n hx hb dX0_takePart_111 rfl (lv_at hl 1 rfl) ?_
    refine lv_iload_n hx hb dX0_takePart_112 rfl (lv_at hl 2 rfl) ?_
    refine lv_iconst (v := 3) hx hb dX0_takePart_113 (by decide) ?_
    refine lv_iadd hx hb dX0_takePart_114 ?_
    refine lv_topi (fun v_10 ev_10 => ?_)
    have tv_10 : v_10.toInt = n.toInt + (3 : Int) := by rw [ev_10]; exact ti_add (x := n) (y := 3) (show -2147483648 ≤ n.toInt + (3 : Int) by omega) (show n.toInt + (3 : Int) < 2147483648 by omega)
    refine va_iald hx hb hK hP 9 0 rfl rfl (vp_in_iff.mpr ⟨by omega, by omega⟩) dX0_takePart_115 ?_
    refine lv_topi (fun v_11 ev_11 => ?_)
    refine lv_bipush (v := 48) hx hb dX0_takePart_116 (by decide) ?_
    refine lv_isub hx hb dX0_takePart_118 ?_
    refine lv_topi (fun v_12 ev_12 => ?_)
    refine va_iast hx hb hK hP hD hS 6 0 rfl rfl (vp_in_iff.mpr ⟨by omega, by omega⟩) dX0_takePart_119 (fun H locs hP hD hS => ?_)
    obtain ⟨f_13, ef_13⟩ : ∃ g : Nat → Int32, upd lFto (ltk : Int32).toNatClampNeg v_12 = g := ⟨_, rfl⟩
    rw [ef_13] at hP hD
    have hP : va_P D vwCl [(h0, .inr (0, [.int lpe, .int ltk, .ref lho, .ref lli, .ref lki, .ref lfd, .ref lfr, .ref lto, .ref lse, .ref lhl])), (lho, .inl (cI, 5, .inl lFho)), (lli, .inl (cI, 5, .inl lFli)), (lki, .inl (cI, 5, .inl lFki)), (lfd, .inl (cI, 7, .inl f_5)), (lfr, .inl (cI, 7, .inl f_9)), (lto, .inl (cI, 7, .inl f_13)), (lse, .inl (cI, 7, .inl lFse)), (lhl, .inl (cI, 7, .inl lFhl)), (tx, .inl (cI, 64, .inl Ftx))] H := hP
    have hD : va_D A [(h0, .inr (0, [.int lpe, .int ltk, .ref lho, .ref lli, .ref lki, .ref lfd, .ref lfr, .ref lto, .ref lse, .ref lhl])), (lho, .inl (cI, 5, .inl lFho)), (lli, .inl (cI, 5, .inl lFli)), (lki, .inl (cI, 5, .inl lFki)), (lfd, .inl (cI, 7, .inl f_5)), (lfr, .inl (cI, 7, .inl f_9)), (lto, .inl (cI, 7, .inl f_13)), (lse, .inl (cI, 7, .inl lFse)), (lhl, .inl (cI, 7, .inl lFhl)), (tx, .inl (cI, 64, .inl Ftx))] := hD
    refine lv_aload_n hx hb dX0_takePart_120 rfl (lv_at hl 0 rfl) ?_
    refine va_get (D := D) (ci := 0) (v := .ref lse) (C := RX0) (T := TX0) (N := 10) hx hb hts iX0 hown hK hP 0 rfl rfl 8 (by decide) (hts (.fieldLink RX0 37 "PunchedTicket$Line" "seat" "[I") (List.mem_of_getElem? (i := 9) rfl)) (fun _ h9 => h9) rfl dX0_takePart_121 ?_
    refine lv_aload_n hx hb dX0_takePart_124 rfl (lv_at hl 0 rfl) ?_
    refine va_get (D := D) (ci := 0) (v := .int ltk) (C := RX0) (T := TX0) (N := 10) hx hb hts iX0 hown hK hP 0 rfl rfl 1 (by decide) (hts (.fieldLink RX0 15 "PunchedTicket$Line" "tickets" "I") (List.mem_of_getElem? (i := 6) rfl)) (fun _ h9 => h9) rfl dX0_takePart_125 ?_
    refine lv_aload_n hx hb dX0_takePart_128 rfl (lv_at hl 1 rfl) ?_
    refine lv_iload_n hx hb dX0_takePart_129 rfl (lv_at hl 2 rfl) ?_
    refine lv_iconst (v := 4) hx hb dX0_takePart_130 (by decide) ?_
    refine lv_iadd hx hb dX0_takePart_131 ?_
    refine lv_topi (fun v_14 ev_14 => ?_)
    have tv_14 : v_14.toInt = n.toInt + (4 : Int) := by rw [ev_14]; exact ti_add (x := n) (y := 4) (show -2147483648 ≤ n.toInt + (4 : Int) by omega) (show n.toInt + (4 : Int) < 2147483648 by omega)
    refine va_iald hx hb hK hP 9 0 rfl rfl (vp_in_iff.mpr ⟨by omega, by omega⟩) dX0_takePart_132 ?_
    refine lv_topi (fun v_15 ev_15 => ?_)
    refine lv_bipush (v := 48) hx hb dX0_takePart_133 (by decide) ?_
    refine lv_isub hx hb dX0_takePart_135 ?_
    refine lv_topi (fun v_16 ev_16 => ?_)
    refine va_iast hx hb hK hP hD hS 7 0 rfl rfl (vp_in_iff.mpr ⟨by omega, by omega⟩) dX0_takePart_136 (fun H locs hP hD hS => ?_)
    obtain ⟨f_17, ef_17⟩ : ∃ g : Nat → Int32, upd lFse (ltk : Int32).toNatClampNeg v_16 = g := ⟨_, rfl⟩
    rw [ef_17] at hP hD
    have hP : va_P D vwCl [(h0, .inr (0, [.int lpe, .int ltk, .ref lho, .ref lli, .ref lki, .ref lfd, .ref lfr, .ref lto, .ref lse, .ref lhl])), (lho, .inl (cI, 5, .inl lFho)), (lli, .inl (cI, 5, .inl lFli)), (lki, .inl (cI, 5, .inl lFki)), (lfd, .inl (cI, 7, .inl f_5)), (lfr, .inl (cI, 7, .inl f_9)), (lto, .inl (cI, 7, .inl f_13)), (lse, .inl (cI, 7, .inl f_17)), (lhl, .inl (cI, 7, .inl lFhl)), (tx, .inl (cI, 64, .inl Ftx))] H := hP
    have hD : va_D A [(h0, .inr (0, [.int lpe, .int ltk, .ref lho, .ref lli, .ref lki, .ref lfd, .ref lfr, .ref lto, .ref lse, .ref lhl])), (lho, .inl (cI, 5, .inl lFho)), (lli, .inl (cI, 5, .inl lFli)), (lki, .inl (cI, 5, .inl lFki)), (lfd, .inl (cI, 7, .inl f_5)), (lfr, .inl (cI, 7, .inl f_9)), (lto, .inl (cI, 7, .inl f_13)), (lse, .inl (cI, 7, .inl f_17)), (lhl, .inl (cI, 7, .inl lFhl)), (tx, .inl (cI, 64, .inl Ftx))] := hD
    refine lv_aload_n hx hb dX0_takePart_137 rfl (lv_at hl 0 rfl) ?_
    refine va_get (D := D) (ci := 0) (v := .ref lhl) (C := RX0) (T := TX0) (N := 10) hx hb hts iX0 hown hK hP 0 rfl rfl 9 (by decide) (hts (.fieldLink RX0 40 "PunchedTicket$Line" "holder" "[I") (List.mem_of_getElem? (i := 10) rfl)) (fun _ h9 => h9) rfl dX0_takePart_138 ?_
    refine lv_aload_n hx hb dX0_takePart_141 rfl (lv_at hl 0 rfl) ?_
    refine va_get (D := D) (ci := 0) (v := .int ltk) (C := RX0) (T := TX0) (N := 10) hx hb hts iX0 hown hK hP 0 rfl rfl 1 (by decide) (hts (.fieldLink RX0 15 "PunchedTicket$Line" "tickets" "I") (List.mem_of_getElem? (i := 6) rfl)) (fun _ h9 => h9) rfl dX0_takePart_142 ?_
    refine lv_aload_n hx hb dX0_takePart_145 rfl (lv_at hl 1 rfl) ?_
    refine lv_iload_n hx hb dX0_takePart_146 rfl (lv_at hl 2 rfl) ?_
    refine lv_iconst (v := 5) hx hb dX0_takePart_147 (by decide) ?_
    refine lv_iadd hx hb dX0_takePart_148 ?_
    refine lv_topi (fun v_18 ev_18 => ?_)
    have tv_18 : v_18.toInt = n.toInt + (5 : Int) := by rw [ev_18]; exact ti_add (x := n) (y := 5) (show -2147483648 ≤ n.toInt + (5 : Int) by omega) (show n.toInt + (5 : Int) < 2147483648 by omega)
    refine va_iald hx hb hK hP 9 0 rfl rfl (vp_in_iff.mpr ⟨by omega, by omega⟩) dX0_takePart_149 ?_
    refine lv_topi (fun v_19 ev_19 => ?_)
    refine lv_bipush (v := 48) hx hb dX0_takePart_150 (by decide) ?_
    refine lv_isub hx hb dX0_takePart_152 ?_
    refine lv_topi (fun v_20 ev_20 => ?_)
    refine va_iast hx hb hK hP hD hS 8 0 rfl rfl (vp_in_iff.mpr ⟨by omega, by omega⟩) dX0_takePart_153 (fun H locs hP hD hS => ?_)
    obtain ⟨f_21, ef_21⟩ : ∃ g : Nat → Int32, upd lFhl (ltk : Int32).toNatClampNeg v_20 = g := ⟨_, rfl⟩
    rw [ef_21] at hP hD
    have hP : va_P D vwCl [(h0, .inr (0, [.int lpe, .int ltk, .ref lho, .ref lli, .ref lki, .ref lfd, .ref lfr, .ref lto, .ref lse, .ref lhl])), (lho, .inl (cI, 5, .inl lFho)), (lli, .inl (cI, 5, .inl lFli)), (lki, .inl (cI, 5, .inl lFki)), (lfd, .inl (cI, 7, .inl f_5)), (lfr, .inl (cI, 7, .inl f_9)), (lto, .inl (cI, 7, .inl f_13)), (lse, .inl (cI, 7, .inl f_17)), (lhl, .inl (cI, 7, .inl f_21)), (tx, .inl (cI, 64, .inl Ftx))] H := hP
    have hD : va_D A [(h0, .inr (0, [.int lpe, .int ltk, .ref lho, .ref lli, .ref lki, .ref lfd, .ref lfr, .ref lto, .ref lse, .ref lhl])), (lho, .inl (cI, 5, .inl lFho)), (lli, .inl (cI, 5, .inl lFli)), (lki, .inl (cI, 5, .inl lFki)), (lfd, .inl (cI, 7, .inl f_5)), (lfr, .inl (cI, 7, .inl f_9)), (lto, .inl (cI, 7, .inl f_13)), (lse, .inl (cI, 7, .inl f_17)), (lhl, .inl (cI, 7, .inl f_21)), (tx, .inl (cI, 64, .inl Ftx))] := hD
    refine lv_aload_n hx hb dX0_takePart_154 rfl (lv_at hl 0 rfl) ?_
    refine lv_dup hx hb dX0_takePart_155 rfl ?_
    refine va_get (D := D) (ci := 0) (v := .int ltk) (C := RX0) (T := TX0) (N := 10) hx hb hts iX0 hown hK hP 0 rfl rfl 1 (by decide) (hts (.fieldLink RX0 15 "PunchedTicket$Line" "tickets" "I") (List.mem_of_getElem? (i := 6) rfl)) (fun _ h9 => h9) rfl dX0_takePart_156 ?_
    refine lv_iconst (v := 1) hx hb dX0_takePart_159 (by decide) ?_
    refine lv_iadd hx hb dX0_takePart_160 ?_
    refine lv_topi (fun v_22 ev_22 => ?_)
    have tv_22 : v_22.toInt = ltk.toInt + (1 : Int) := by rw [ev_22]; exact ti_add (x := ltk) (y := 1) (show -2147483648 ≤ ltk.toInt + (1 : Int) by omega) (show ltk.toInt + (1 : Int) < 2147483648 by omega)
    refine va_put (D := D) (ci := 0) (v := .int v_22) (ty := .int) (C := RX0) (T := TX0) (N := 10) hx hb hts iX0 tyX0 tyX0_ok nmX0 hown hK hP hD hS 0 rfl rfl 1 (by decide) (hts (.fieldLink RX0 15 "PunchedTicket$Line" "tickets" "I") (List.mem_of_getElem? (i := 6) rfl)) (fun _ h9 => h9) rfl (by decide +kernel) rfl rfl (Nat.le_of_ble_eq_true rfl) dX0_takePart_161 (fun H locs hP hD hS => ?_)
    have hP : va_P D vwCl [(h0, .inr (0, [.int lpe, .int v_22, .ref lho, .ref lli, .ref lki, .ref lfd, .ref lfr, .ref lto, .ref lse, .ref lhl])), (lho, .inl (cI, 5, .inl lFho)), (lli, .inl (cI, 5, .inl lFli)), (lki, .inl (cI, 5, .inl lFki)), (lfd, .inl (cI, 7, .inl f_5)), (lfr, .inl (cI, 7, .inl f_9)), (lto, .inl (cI, 7, .inl f_13)), (lse, .inl (cI, 7, .inl f_17)), (lhl, .inl (cI, 7, .inl f_21)), (tx, .inl (cI, 64, .inl Ftx))] H := hP
    have hD : va_D A [(h0, .inr (0, [.int lpe, .int v_22, .ref lho, .ref lli, .ref lki, .ref lfd, .ref lfr, .ref lto, .ref lse, .ref lhl])), (lho, .inl (cI, 5, .inl lFho)), (lli, .inl (cI, 5, .inl lFli)), (lki, .inl (cI, 5, .inl lFki)), (lfd, .inl (cI, 7, .inl f_5)), (lfr, .inl (cI, 7, .inl f_9)), (lto, .inl (cI, 7, .inl f_13)), (lse, .inl (cI, 7, .inl f_17)), (lhl, .inl (cI, 7, .inl f_21)), (tx, .inl (cI, 64, .inl Ftx))] := hD
    exact ret_v (post := (fun (u : Int32 × Int32 × (Nat → Int32) × (Nat → Int32) × (Nat → Int32) × (Nat → Int32) × (Nat → Int32) × (Nat → Int32) × (Nat → Int32) × (Nat → Int32)) => (z.toInt = 4 → u.1.toInt = lpe.toInt + 1 ∧ u.2.1.toInt = ltk.toInt) ∧ (z.toInt = 6 → u.1.toInt = lpe.toInt ∧ u.2.1.toInt = ltk.toInt + 1) ∧ 0 ≤ u.1.toInt ∧ u.1.toInt ≤ 5 ∧ 0 ≤ u.2.1.toInt ∧ u.2.1.toInt ≤ 6)) (W1 := (fun u => [(h0, .inr (0, [.int u.1, .int u.2.1, .ref lho, .ref lli, .ref lki, .ref lfd, .ref lfr, .ref lto, .ref lse, .ref lhl])), (lho, .inl (cI, 5, .inl u.2.2.1)), (lli, .inl (cI, 5, .inl u.2.2.2.1)), (lki, .inl (cI, 5, .inl u.2.2.2.2.1)), (lfd, .inl (cI, 7, .inl u.2.2.2.2.2.1)), (lfr, .inl (cI, 7, .inl u.2.2.2.2.2.2.1)), (lto, .inl (cI, 7, .inl u.2.2.2.2.2.2.2.1)), (lse, .inl (cI, 7, .inl u.2.2.2.2.2.2.2.2.1)), (lhl, .inl (cI, 7, .inl u.2.2.2.2.2.2.2.2.2)), (tx, .inl (cI, 64, .inl Ftx))])) (lpe, v_22, lFho, lFli, lFki, f_5, f_9, f_13, f_17, f_21) hx hb hr hlocks hQ hK hP hD hS ⟨by decide, by decide⟩ dX0_takePart_164 (show (z.toInt = 4 → lpe.toInt = lpe.toInt + 1 ∧ v_22.toInt = ltk.toInt) ∧ (z.toInt = 6 → lpe.toInt = lpe.toInt ∧ v_22.toInt = ltk.toInt + 1) ∧ 0 ≤ lpe.toInt ∧ lpe.toInt ≤ 5 ∧ 0 ≤ v_22.toInt ∧ v_22.toInt ≤ 6 by omega)
  · have tc_1 := b_eq rfl (show (4 : Int32).toInt = 4 by decide) c_1
    refine lv_aload_n hx hb dX0_takePart_5 rfl (lv_at hl 0 rfl) ?_
    refine va_get (D := D) (ci := 0) (v := .ref lho) (C := RX0) (T := TX0) (N := 10) hx hb hts iX0 hown hK hP 0 rfl rfl 2 (by decide) (hts (.fieldLink RX0 18 "PunchedTicket$Line" "home" "[I") (List.mem_of_getElem? (i := 1) rfl)) (fun _ h9 => h9) rfl dX0_takePart_6 ?_
    refine lv_aload_n hx hb dX0_takePart_9 rfl (lv_at hl 0 rfl) ?_
    refine va_get (D := D) (ci := 0) (v := .int lpe) (C := RX0) (T := TX0) (N := 10) hx hb hts iX0 hown hK hP 0 rfl rfl 0 (by decide) (hts (.fieldLink RX0 9 "PunchedTicket$Line" "people" "I") (List.mem_of_getElem? (i := 2) rfl)) (fun _ h9 => h9) rfl dX0_takePart_10 ?_
    refine lv_aload_n hx hb dX0_takePart_13 rfl (lv_at hl 1 rfl) ?_
    refine lv_iload_n hx hb dX0_takePart_14 rfl (lv_at hl 2 rfl) ?_
    refine lv_iconst (v := 1) hx hb dX0_takePart_15 (by decide) ?_
    refine lv_iadd hx hb dX0_takePart_16 ?_
    refine lv_topi (fun v_23 ev_23 => ?_)
    have tv_23 : v_23.toInt = n.toInt + (1 : Int) := by rw [ev_23]; exact ti_add (x := n) (y := 1) (show -2147483648 ≤ n.toInt + (1 : Int) by omega) (show n.toInt + (1 : Int) < 2147483648 by omega)
    refine va_iald hx hb hK hP 9 0 rfl rfl (vp_in_iff.mpr ⟨by omega, by omega⟩) dX0_takePart_17 ?_
    refine lv_topi (fun v_24 ev_24 => ?_)
    refine lv_bipush (v := 48) hx hb dX0_takePart_18 (by decide) ?_
    refine lv_isub hx hb dX0_takePart_20 ?_
    refine lv_topi (fun v_25 ev_25 => ?_)
    refine va_iast hx hb hK hP hD hS 1 0 rfl rfl (vp_in_iff.mpr ⟨by omega, by omega⟩) dX0_takePart_21 (fun H locs hP hD hS => ?_)
    obtain ⟨f_26, ef_26⟩ : ∃ g : Nat → Int32, upd lFho (lpe : Int32).toNatClampNeg v_25 = g := ⟨_, rfl⟩
    rw [ef_26] at hP hD
    have hP : va_P D vwCl [(h0, .inr (0, [.int lpe, .int ltk, .ref lho, .ref lli, .ref lki, .ref lfd, .ref lfr, .ref lto, .ref lse, .ref lhl])), (lho, .inl (cI, 5, .inl f_26)), (lli, .inl (cI, 5, .inl lFli)), (lki, .inl (cI, 5, .inl lFki)), (lfd, .inl (cI, 7, .inl lFfd)), (lfr, .inl (cI, 7, .inl lFfr)), (lto, .inl (cI, 7, .inl lFto)), (lse, .inl (cI, 7, .inl lFse)), (lhl, .inl (cI, 7, .inl lFhl)), (tx, .inl (cI, 64, .inl Ftx))] H := hP
    have hD : va_D A [(h0, .inr (0, [.int lpe, .int ltk, .ref lho, .ref lli, .ref lki, .ref lfd, .ref lfr, .ref lto, .ref lse, .ref lhl])), (lho, .inl (cI, 5, .inl f_26)), (lli, .inl (cI, 5, .inl lFli)), (lki, .inl (cI, 5, .inl lFki)), (lfd, .inl (cI, 7, .inl lFfd)), (lfr, .inl (cI, 7, .inl lFfr)), (lto, .inl (cI, 7, .inl lFto)), (lse, .inl (cI, 7, .inl lFse)), (lhl, .inl (cI, 7, .inl lFhl)), (tx, .inl (cI, 64, .inl Ftx))] := hD
    refine lv_aload_n hx hb dX0_takePart_22 rfl (lv_at hl 0 rfl) ?_
    refine va_get (D := D) (ci := 0) (v := .ref lli) (C := RX0) (T := TX0) (N := 10) hx hb hts iX0 hown hK hP 0 rfl rfl 3 (by decide) (hts (.fieldLink RX0 22 "PunchedTicket$Line" "liked" "[I") (List.mem_of_getElem? (i := 3) rfl)) (fun _ h9 => h9) rfl dX0_takePart_23 ?_
    refine lv_aload_n hx hb dX0_takePart_26 rfl (lv_at hl 0 rfl) ?_
    refine va_get (D := D) (ci := 0) (v := .int lpe) (C := RX0) (T := TX0) (N := 10) hx hb hts iX0 hown hK hP 0 rfl rfl 0 (by decide) (hts (.fieldLink RX0 9 "PunchedTicket$Line" "people" "I") (List.mem_of_getElem? (i := 2) rfl)) (fun _ h9 => h9) rfl dX0_takePart_27 ?_
    refine lv_aload_n hx hb dX0_takePart_30 rfl (lv_at hl 1 rfl) ?_
    refine lv_iload_n hx hb dX0_takePart_31 rfl (lv_at hl 2 rfl) ?_
    refine lv_iconst (v := 2) hx hb dX0_takePart_32 (by decide) ?_
    refine lv_iadd hx hb dX0_takePart_33 ?_
    refine lv_topi (fun v_27 ev_27 => ?_)
    have tv_27 : v_27.toInt = n.toInt + (2 : Int) := by rw [ev_27]; exact ti_add (x := n) (y := 2) (show -2147483648 ≤ n.toInt + (2 : Int) by omega) (show n.toInt + (2 : Int) < 2147483648 by omega)
    refine va_iald hx hb hK hP 9 0 rfl rfl (vp_in_iff.mpr ⟨by omega, by omega⟩) dX0_takePart_34 ?_
    refine lv_topi (fun v_28 ev_28 => ?_)
    refine lv_bipush (v := 48) hx hb dX0_takePart_35 (by decide) ?_
    refine lv_isub hx hb dX0_takePart_37 ?_
    refine lv_topi (fun v_29 ev_29 => ?_)
    refine va_iast hx hb hK hP hD hS 2 0 rfl rfl (vp_in_iff.mpr ⟨by omega, by omega⟩) dX0_takePart_38 (fun H locs hP hD hS => ?_)
    obtain ⟨f_30, ef_30⟩ : ∃ g : Nat → Int32, upd lFli (lpe : Int32).toNatClampNeg v_29 = g := ⟨_, rfl⟩
    rw [ef_30] at hP hD
    have hP : va_P D vwCl [(h0, .inr (0, [.int lpe, .int ltk, .ref lho, .ref lli, .ref lki, .ref lfd, .ref lfr, .ref lto, .ref lse, .ref lhl])), (lho, .inl (cI, 5, .inl f_26)), (lli, .inl (cI, 5, .inl f_30)), (lki, .inl (cI, 5, .inl lFki)), (lfd, .inl (cI, 7, .inl lFfd)), (lfr, .inl (cI, 7, .inl lFfr)), (lto, .inl (cI, 7, .inl lFto)), (lse, .inl (cI, 7, .inl lFse)), (lhl, .inl (cI, 7, .inl lFhl)), (tx, .inl (cI, 64, .inl Ftx))] H := hP
    have hD : va_D A [(h0, .inr (0, [.int lpe, .int ltk, .ref lho, .ref lli, .ref lki, .ref lfd, .ref lfr, .ref lto, .ref lse, .ref lhl])), (lho, .inl (cI, 5, .inl f_26)), (lli, .inl (cI, 5, .inl f_30)), (lki, .inl (cI, 5, .inl lFki)), (lfd, .inl (cI, 7, .inl lFfd)), (lfr, .inl (cI, 7, .inl lFfr)), (lto, .inl (cI, 7, .inl lFto)), (lse, .inl (cI, 7, .inl lFse)), (lhl, .inl (cI, 7, .inl lFhl)), (tx, .inl (cI, 64, .inl Ftx))] := hD
    refine lv_aload_n hx hb dX0_takePart_39 rfl (lv_at hl 0 rfl) ?_
    refine va_get (D := D) (ci := 0) (v := .ref lki) (C := RX0) (T := TX0) (N := 10) hx hb hts iX0 hown hK hP 0 rfl rfl 4 (by decide) (hts (.fieldLink RX0 25 "PunchedTicket$Line" "kind" "[I") (List.mem_of_getElem? (i := 4) rfl)) (fun _ h9 => h9) rfl dX0_takePart_40 ?_
    refine lv_aload_n hx hb dX0_takePart_43 rfl (lv_at hl 0 rfl) ?_
    refine va_get (D := D) (ci := 0) (v := .int lpe) (C := RX0) (T := TX0) (N := 10) hx hb hts iX0 hown hK hP 0 rfl rfl 0 (by decide) (hts (.fieldLink RX0 9 "PunchedTicket$Line" "people" "I") (List.mem_of_getElem? (i := 2) rfl)) (fun _ h9 => h9) rfl dX0_takePart_44 ?_
    refine lv_aload_n hx hb dX0_takePart_47 rfl (lv_at hl 1 rfl) ?_
    refine lv_iload_n hx hb dX0_takePart_48 rfl (lv_at hl 2 rfl) ?_
    refine lv_iconst (v := 3) hx hb dX0_takePart_49 (by decide) ?_
    refine lv_iadd hx hb dX0_takePart_50 ?_
    refine lv_topi (fun v_31 ev_31 => ?_)
    have tv_31 : v_31.toInt = n.toInt + (3 : Int) := by rw [ev_31]; exact ti_add (x := n) (y := 3) (show -2147483648 ≤ n.toInt + (3 : Int) by omega) (show n.toInt + (3 : Int) < 2147483648 by omega)
    refine va_iald hx hb hK hP 9 0 rfl rfl (vp_in_iff.mpr ⟨by omega, by omega⟩) dX0_takePart_51 ?_
    refine lv_topi (fun v_32 ev_32 => ?_)
    refine lv_bipush (v := 48) hx hb dX0_takePart_52 (by decide) ?_
    refine lv_isub hx hb dX0_takePart_54 ?_
    refine lv_topi (fun v_33 ev_33 => ?_)
    refine va_iast hx hb hK hP hD hS 3 0 rfl rfl (vp_in_iff.mpr ⟨by omega, by omega⟩) dX0_takePart_55 (fun H locs hP hD hS => ?_)
    obtain ⟨f_34, ef_34⟩ : ∃ g : Nat → Int32, upd lFki (lpe : Int32).toNatClampNeg v_33 = g := ⟨_, rfl⟩
    rw [ef_34] at hP hD
    have hP : va_P D vwCl [(h0, .inr (0, [.int lpe, .int ltk, .ref lho, .ref lli, .ref lki, .ref lfd, .ref lfr, .ref lto, .ref lse, .ref lhl])), (lho, .inl (cI, 5, .inl f_26)), (lli, .inl (cI, 5, .inl f_30)), (lki, .inl (cI, 5, .inl f_34)), (lfd, .inl (cI, 7, .inl lFfd)), (lfr, .inl (cI, 7, .inl lFfr)), (lto, .inl (cI, 7, .inl lFto)), (lse, .inl (cI, 7, .inl lFse)), (lhl, .inl (cI, 7, .inl lFhl)), (tx, .inl (cI, 64, .inl Ftx))] H := hP
    have hD : va_D A [(h0, .inr (0, [.int lpe, .int ltk, .ref lho, .ref lli, .ref lki, .ref lfd, .ref lfr, .ref lto, .ref lse, .ref lhl])), (lho, .inl (cI, 5, .inl f_26)), (lli, .inl (cI, 5, .inl f_30)), (lki, .inl (cI, 5, .inl f_34)), (lfd, .inl (cI, 7, .inl lFfd)), (lfr, .inl (cI, 7, .inl lFfr)), (lto, .inl (cI, 7, .inl lFto)), (lse, .inl (cI, 7, .inl lFse)), (lhl, .inl (cI, 7, .inl lFhl)), (tx, .inl (cI, 64, .inl Ftx))] := hD
    refine lv_aload_n hx hb dX0_takePart_56 rfl (lv_at hl 0 rfl) ?_
    refine lv_dup hx hb dX0_takePart_57 rfl ?_
    refine va_get (D := D) (ci := 0) (v := .int lpe) (C := RX0) (T := TX0) (N := 10) hx hb hts iX0 hown hK hP 0 rfl rfl 0 (by decide) (hts (.fieldLink RX0 9 "PunchedTicket$Line" "people" "I") (List.mem_of_getElem? (i := 2) rfl)) (fun _ h9 => h9) rfl dX0_takePart_58 ?_
    refine lv_iconst (v := 1) hx hb dX0_takePart_61 (by decide) ?_
    refine lv_iadd hx hb dX0_takePart_62 ?_
    refine lv_topi (fun v_35 ev_35 => ?_)
    have tv_35 : v_35.toInt = lpe.toInt + (1 : Int) := by rw [ev_35]; exact ti_add (x := lpe) (y := 1) (show -2147483648 ≤ lpe.toInt + (1 : Int) by omega) (show lpe.toInt + (1 : Int) < 2147483648 by omega)
    refine va_put (D := D) (ci := 0) (v := .int v_35) (ty := .int) (C := RX0) (T := TX0) (N := 10) hx hb hts iX0 tyX0 tyX0_ok nmX0 hown hK hP hD hS 0 rfl rfl 0 (by decide) (hts (.fieldLink RX0 9 "PunchedTicket$Line" "people" "I") (List.mem_of_getElem? (i := 2) rfl)) (fun _ h9 => h9) rfl (by decide +kernel) rfl rfl (Nat.le_of_ble_eq_true rfl) dX0_takePart_63 (fun H locs hP hD hS => ?_)
    have hP : va_P D vwCl [(h0, .inr (0, [.int v_35, .int ltk, .ref lho, .ref lli, .ref lki, .ref lfd, .ref lfr, .ref lto, .ref lse, .ref lhl])), (lho, .inl (cI, 5, .inl f_26)), (lli, .inl (cI, 5, .inl f_30)), (lki, .inl (cI, 5, .inl f_34)), (lfd, .inl (cI, 7, .inl lFfd)), (lfr, .inl (cI, 7, .inl lFfr)), (lto, .inl (cI, 7, .inl lFto)), (lse, .inl (cI, 7, .inl lFse)), (lhl, .inl (cI, 7, .inl lFhl)), (tx, .inl (cI, 64, .inl Ftx))] H := hP
    have hD : va_D A [(h0, .inr (0, [.int v_35, .int ltk, .ref lho, .ref lli, .ref lki, .ref lfd, .ref lfr, .ref lto, .ref lse, .ref lhl])), (lho, .inl (cI, 5, .inl f_26)), (lli, .inl (cI, 5, .inl f_30)), (lki, .inl (cI, 5, .inl f_34)), (lfd, .inl (cI, 7, .inl lFfd)), (lfr, .inl (cI, 7, .inl lFfr)), (lto, .inl (cI, 7, .inl lFto)), (lse, .inl (cI, 7, .inl lFse)), (lhl, .inl (cI, 7, .inl lFhl)), (tx, .inl (cI, 64, .inl Ftx))] := hD
    refine lv_goto (tgt := 164) hx hb dX0_takePart_66 (by decide) ?_
    exact ret_v (post := (fun (u : Int32 × Int32 × (Nat → Int32) × (Nat → Int32) × (Nat → Int32) × (Nat → Int32) × (Nat → Int32) × (Nat → Int32) × (Nat → Int32) × (Nat → Int32)) => (z.toInt = 4 → u.1.toInt = lpe.toInt + 1 ∧ u.2.1.toInt = ltk.toInt) ∧ (z.toInt = 6 → u.1.toInt = lpe.toInt ∧ u.2.1.toInt = ltk.toInt + 1) ∧ 0 ≤ u.1.toInt ∧ u.1.toInt ≤ 5 ∧ 0 ≤ u.2.1.toInt ∧ u.2.1.toInt ≤ 6)) (W1 := (fun u => [(h0, .inr (0, [.int u.1, .int u.2.1, .ref lho, .ref lli, .ref lki, .ref lfd, .ref lfr, .ref lto, .ref lse, .ref lhl])), (lho, .inl (cI, 5, .inl u.2.2.1)), (lli, .inl (cI, 5, .inl u.2.2.2.1)), (lki, .inl (cI, 5, .inl u.2.2.2.2.1)), (lfd, .inl (cI, 7, .inl u.2.2.2.2.2.1)), (lfr, .inl (cI, 7, .inl u.2.2.2.2.2.2.1)), (lto, .inl (cI, 7, .inl u.2.2.2.2.2.2.2.1)), (lse, .inl (cI, 7, .inl u.2.2.2.2.2.2.2.2.1)), (lhl, .inl (cI, 7, .inl u.2.2.2.2.2.2.2.2.2)), (tx, .inl (cI, 64, .inl Ftx))])) (v_35, ltk, f_26, f_30, f_34, lFfd, lFfr, lFto, lFse, lFhl) hx hb hr hlocks hQ hK hP hD hS ⟨by decide, by decide⟩ dX0_takePart_164 (show (z.toInt = 4 → v_35.toInt = lpe.toInt + 1 ∧ ltk.toInt = ltk.toInt) ∧ (z.toInt = 6 → v_35.toInt = lpe.toInt ∧ ltk.toInt = ltk.toInt + 1) ∧ 0 ≤ v_35.toInt ∧ v_35.toInt ≤ 5 ∧ 0 ≤ ltk.toInt ∧ ltk.toInt ≤ 6 by omega)

set_option maxHeartbeats 600000 in
set_option maxRecDepth 100000 in
theorem t_X0_read (l : Launch) (D : va_G) (cI cZ cM : ClassId) (h0 : Nat) (tx : Nat) (le : Int32) (lpe : Int32) (ltk : Int32) (lho : Nat) (lli : Nat) (lki : Nat) (lfd : Nat) (lfr : Nat) (lto : Nat) (lse : Nat) (lhl : Nat) (lFho : Nat → Int32) (lFli : Nat → Int32) (lFki : Nat → Int32) (lFfd : Nat → Int32) (lFfr : Nat → Int32) (lFto : Nat → Int32) (lFse : Nat → Int32) (lFhl : Nat → Int32) (Ftx : Nat → Int32) (sz : Nat) (hTx : TxOk Ftx) (h_le : 0 ≤ le.toInt ∧ le.toInt ≤ 64) : Ci l yX0_read wsX0_read ({ frames := 2, cells := 0, slots := 0, locals := 51 } : Room) D cI cZ cM [.ref h0, .ref tx, .int le] [(h0, .inr (0, [.int lpe, .int ltk, .ref lho, .ref lli, .ref lki, .ref lfd, .ref lfr, .ref lto, .ref lse, .ref lhl])), (lho, .inl (cI, 5, .inl lFho)), (lli, .inl (cI, 5, .inl lFli)), (lki, .inl (cI, 5, .inl lFki)), (lfd, .inl (cI, 7, .inl lFfd)), (lfr, .inl (cI, 7, .inl lFfr)), (lto, .inl (cI, 7, .inl lFto)), (lse, .inl (cI, 7, .inl lFse)), (lhl, .inl (cI, 7, .inl lFhl)), (tx, .inl (cI, 64, .inl Ftx))] sz (fun (r : Int32) (u : Int32 × Int32 × (Nat → Int32) × (Nat → Int32) × (Nat → Int32) × (Nat → Int32) × (Nat → Int32) × (Nat → Int32) × (Nat → Int32) × (Nat → Int32)) => r.toInt = (flt Ftx le.toInt).1 ∧ (r.toInt = -9 → u.1.toInt = (flt Ftx le.toInt).2.1 ∧ u.2.1.toInt = (flt Ftx le.toInt).2.2) ∧ 0 ≤ u.1.toInt ∧ u.1.toInt ≤ 5 ∧ 0 ≤ u.2.1.toInt ∧ u.2.1.toInt ≤ 6) (fun u => [(h0, .inr (0, [.int u.1, .int u.2.1, .ref lho, .ref lli, .ref lki, .ref lfd, .ref lfr, .ref lto, .ref lse, .ref lhl])), (lho, .inl (cI, 5, .inl u.2.2.1)), (lli, .inl (cI, 5, .inl u.2.2.2.1)), (lki, .inl (cI, 5, .inl u.2.2.2.2.1)), (lfd, .inl (cI, 7, .inl u.2.2.2.2.2.1)), (lfr, .inl (cI, 7, .inl u.2.2.2.2.2.2.1)), (lto, .inl (cI, 7, .inl u.2.2.2.2.2.2.2.1)), (lse, .inl (cI, 7, .inl u.2.2.2.2.2.2.2.2.1)), (lhl, .inl (cI, 7, .inl u.2.2.2.2.2.2.2.2.2)), (tx, .inl (cI, 64, .inl Ftx))]) 0 0 := by
  refine begins (l := l) (y := yX0_read) (ws := wsX0_read) (av := [.ref h0, .ref tx, .int le]) (Qc := fun A => va_Qi (fun (r : Int32) (u : Int32 × Int32 × (Nat → Int32) × (Nat → Int32) × (Nat → Int32) × (Nat → Int32) × (Nat → Int32) × (Nat → Int32) × (Nat → Int32) × (Nat → Int32)) => r.toInt = (flt Ftx le.toInt).1 ∧ (r.toInt = -9 → u.1.toInt = (flt Ftx le.toInt).2.1 ∧ u.2.1.toInt = (flt Ftx le.toInt).2.2) ∧ 0 ≤ u.1.toInt ∧ u.1.toInt ≤ 5 ∧ 0 ≤ u.2.1.toInt ∧ u.2.1.toInt ≤ 6) (fun u => Wd D cI cZ cM A ((fun u => [(h0, .inr (0, [.int u.1, .int u.2.1, .ref lho, .ref lli, .ref lki, .ref lfd, .ref lfr, .ref lto, .ref lse, .ref lhl])), (lho, .inl (cI, 5, .inl u.2.2.1)), (lli, .inl (cI, 5, .inl u.2.2.2.1)), (lki, .inl (cI, 5, .inl u.2.2.2.2.1)), (lfd, .inl (cI, 7, .inl u.2.2.2.2.2.1)), (lfr, .inl (cI, 7, .inl u.2.2.2.2.2.2.1)), (lto, .inl (cI, 7, .inl u.2.2.2.2.2.2.2.1)), (lse, .inl (cI, 7, .inl u.2.2.2.2.2.2.2.2.1)), (lhl, .inl (cI, 7, .inl u.2.2.2.2.2.2.2.2.2)), (tx, .inl (cI, 64, .inl Ftx))]) u)) A) cX0_read 6 (some .int) (by decide) rfl (Nat.le_of_ble_eq_true rfl) ?_
  intro p e s m args below meth c R Q A ls hBd hR hQ hA hS hK hP hD hl
  obtain ⟨hx, hb, hr, hts, hown, hlocks, hin, hml⟩ := hBd
  have hl : lv_has ls 6 [(0, .ref h0), (1, .ref tx), (2, .int le)] := hl
  have iX0 : ∀ w ∈ wsX00, w ∈ wsX0_read := fun _ h => List.mem_cons_of_mem _ (List.mem_append_right _ h)
  obtain ⟨h_lea, h_leb⟩ := h_le
  refine lv_aload_n hx hb dX0_read_0 rfl (lv_at hl 0 rfl) ?_
  refine lv_iconst (v := 0) hx hb dX0_read_1 (by decide) ?_
  refine va_put (D := D) (ci := 0) (v := .int 0) (ty := .int) (C := RX0) (T := TX0) (N := 10) hx hb hts iX0 tyX0 tyX0_ok nmX0 hown hK hP hD hS 0 rfl rfl 0 (by decide) (hts (.fieldLink RX0 9 "PunchedTicket$Line" "people" "I") (List.mem_of_getElem? (i := 1) rfl)) (fun _ h9 => h9) rfl (by decide +kernel) rfl rfl (Nat.le_of_ble_eq_true rfl) dX0_read_2 (fun H locs hP hD hS => ?_)
  have hP : va_P D vwCl [(h0, .inr (0, [.int 0, .int ltk, .ref lho, .ref lli, .ref lki, .ref lfd, .ref lfr, .ref lto, .ref lse, .ref lhl])), (lho, .inl (cI, 5, .inl lFho)), (lli, .inl (cI, 5, .inl lFli)), (lki, .inl (cI, 5, .inl lFki)), (lfd, .inl (cI, 7, .inl lFfd)), (lfr, .inl (cI, 7, .inl lFfr)), (lto, .inl (cI, 7, .inl lFto)), (lse, .inl (cI, 7, .inl lFse)), (lhl, .inl (cI, 7, .inl lFhl)), (tx, .inl (cI, 64, .inl Ftx))] H := hP
  have hD : va_D A [(h0, .inr (0, [.int 0, .int ltk, .ref lho, .ref lli, .ref lki, .ref lfd, .ref lfr, .ref lto, .ref lse, .ref lhl])), (lho, .inl (cI, 5, .inl lFho)), (lli, .inl (cI, 5, .inl lFli)), (lki, .inl (cI, 5, .inl lFki)), (lfd, .inl (cI, 7, .inl lFfd)), (lfr, .inl (cI, 7, .inl lFfr)), (lto, .inl (cI, 7, .inl lFto)), (lse, .inl (cI, 7, .inl lFse)), (lhl, .inl (cI, 7, .inl lFhl)), (tx, .inl (cI, 64, .inl Ftx))] := hD
  refine lv_aload_n hx hb dX0_read_5 rfl (lv_at hl 0 rfl) ?_
  refine lv_iconst (v := 0) hx hb dX0_read_6 (by decide) ?_
  refine va_put (D := D) (ci := 0) (v := .int 0) (ty := .int) (C := RX0) (T := TX0) (N := 10) hx hb hts iX0 tyX0 tyX0_ok nmX0 hown hK hP hD hS 0 rfl rfl 1 (by decide) (hts (.fieldLink RX0 15 "PunchedTicket$Line" "tickets" "I") (List.mem_of_getElem? (i := 2) rfl)) (fun _ h9 => h9) rfl (by decide +kernel) rfl rfl (Nat.le_of_ble_eq_true rfl) dX0_read_7 (fun H locs hP hD hS => ?_)
  have hP : va_P D vwCl [(h0, .inr (0, [.int 0, .int 0, .ref lho, .ref lli, .ref lki, .ref lfd, .ref lfr, .ref lto, .ref lse, .ref lhl])), (lho, .inl (cI, 5, .inl lFho)), (lli, .inl (cI, 5, .inl lFli)), (lki, .inl (cI, 5, .inl lFki)), (lfd, .inl (cI, 7, .inl lFfd)), (lfr, .inl (cI, 7, .inl lFfr)), (lto, .inl (cI, 7, .inl lFto)), (lse, .inl (cI, 7, .inl lFse)), (lhl, .inl (cI, 7, .inl lFhl)), (tx, .inl (cI, 64, .inl Ftx))] H := hP
  have hD : va_D A [(h0, .inr (0, [.int 0, .int 0, .ref lho, .ref lli, .ref lki, .ref lfd, .ref lfr, .ref lto, .ref lse, .ref lhl])), (lho, .inl (cI, 5, .inl lFho)), (lli, .inl (cI, 5, .inl lFli)), (lki, .inl (cI, 5, .inl lFki)), (lfd, .inl (cI, 7, .inl lFfd)), (lfr, .inl (cI, 7, .inl lFfr)), (lto, .inl (cI, 7, .inl lFto)), (lse, .inl (cI, 7, .inl lFse)), (lhl, .inl (cI, 7, .inl lFhl)), (tx, .inl (cI, 64, .inl Ftx))] := hD
  refine lv_iload_n hx hb dX0_read_10 rfl (lv_at hl 2 rfl) ?_
  refine lv_iconst (v := 1) hx hb dX0_read_11 (by decide) ?_
  refine lv_icmp_lt (tgt := 29) hx hb dX0_read_12 (by decide) (fun c_1 => ?_) (fun c_1 => ?_)
  · have tc_1 := b_lt rfl (show (1 : Int32).toInt = 1 by decide) c_1
    refine lv_iconst (v := 0) hx hb dX0_read_29 (by decide) ?_
    exact ret_i (post := (fun (r : Int32) (u : Int32 × Int32 × (Nat → Int32) × (Nat → Int32) × (Nat → Int32) × (Nat → Int32) × (Nat → Int32) × (Nat → Int32) × (Nat → Int32) × (Nat → Int32)) => r.toInt = (flt Ftx le.toInt).1 ∧ (r.toInt = -9 → u.1.toInt = (flt Ftx le.toInt).2.1 ∧ u.2.1.toInt = (flt Ftx le.toInt).2.2) ∧ 0 ≤ u.1.toInt ∧ u.1.toInt ≤ 5 ∧ 0 ≤ u.2.1.toInt ∧ u.2.1.toInt ≤ 6)) (W1 := (fun u => [(h0, .inr (0, [.int u.1, .int u.2.1, .ref lho, .ref lli, .ref lki, .ref lfd, .ref lfr, .ref lto, .ref lse, .ref lhl])), (lho, .inl (cI, 5, .inl u.2.2.1)), (lli, .inl (cI, 5, .inl u.2.2.2.1)), (lki, .inl (cI, 5, .inl u.2.2.2.2.1)), (lfd, .inl (cI, 7, .inl u.2.2.2.2.2.1)), (lfr, .inl (cI, 7, .inl u.2.2.2.2.2.2.1)), (lto, .inl (cI, 7, .inl u.2.2.2.2.2.2.2.1)), (lse, .inl (cI, 7, .inl u.2.2.2.2.2.2.2.2.1)), (lhl, .inl (cI, 7, .inl u.2.2.2.2.2.2.2.2.2)), (tx, .inl (cI, 64, .inl Ftx))])) (0, 0, lFho, lFli, lFki, lFfd, lFfr, lFto, lFse, lFhl) hx hb hr hlocks rfl hQ hK hP hD hS ⟨by decide, by decide⟩ dX0_read_30 (show (0 : Int) = (flt Ftx le.toInt).1 ∧ ((0 : Int) = -9 → (0 : Int) = (flt Ftx le.toInt).2.1 ∧ (0 : Int) = (flt Ftx le.toInt).2.2) ∧ 0 ≤ (0 : Int) ∧ (0 : Int) ≤ 5 ∧ 0 ≤ (0 : Int) ∧ (0 : Int) ≤ 6 from ⟨by rw [flt_no (F := Ftx) (n := le.toInt) (by omega)], fun q => absurd q (by decide), by decide, by decide, by decide, by decide⟩)
  · have tc_1 := b_nlt rfl (show (1 : Int32).toInt = 1 by decide) c_1
    refine lv_iload_n hx hb dX0_read_15 rfl (lv_at hl 2 rfl) ?_
    refine lv_aload_n hx hb dX0_read_16 rfl (lv_at hl 1 rfl) ?_
    refine va_alen (v := 64) hx hb hK hP 9 0 rfl rfl rfl dX0_read_17 ?_
    refine lv_icmp_gt (tgt := 29) hx hb dX0_read_18 (by decide) (fun c_2 => ?_) (fun c_2 => ?_)
    · have tc_2 := b_lt (show (64 : Int32).toInt = 64 by decide) rfl c_2
      exfalso; omega
    · have tc_2 := b_nlt (show (64 : Int32).toInt = 64 by decide) rfl c_2
      refine lv_aload_n hx hb dX0_read_21 rfl (lv_at hl 1 rfl) ?_
      refine lv_iconst (v := 0) hx hb dX0_read_22 (by decide) ?_
      refine va_iald hx hb hK hP 9 0 rfl rfl (vp_in_iff.mpr (by decide)) dX0_read_23 ?_
      refine lv_topi (fun v_3 ev_3 => ?_)
      have tv_3 : v_3.toInt = (Ftx 0).toInt := by rw [ev_3]; rfl
      refine lv_bipush (v := 76) hx hb dX0_read_24 (by decide) ?_
      refine lv_icmp_eq (tgt := 31) hx hb dX0_read_26 (by decide) (fun c_4 => ?_) (fun c_4 => ?_)
      · have tc_4 := b_eq rfl (show (76 : Int32).toInt = 76 by decide) c_4
        have hT : flt Ftx le.toInt = prs Ftx le.toInt 12 1 0 0 := flt_yes (by omega) (by omega)
        refine lv_iconst (v := 0) hx hb dX0_read_31 (by decide) ?_
        refine lv_istore_n (lv' := [(3, .int 0), (0, .ref h0), (1, .ref tx), (2, .int le)]) hx hb dX0_read_32 rfl hl (by decide) rfl (fun ls hl => ?_)
        refine lv_iconst (v := 1) hx hb dX0_read_33 (by decide) ?_
        refine lv_istore (lv' := [(4, .int 1), (3, .int 0), (0, .ref h0), (1, .ref tx), (2, .int le)]) hx hb dX0_read_34 hl (by decide) rfl (fun ls hl => ?_)
        have LOOP_5 : ∀ (fu_5 : Nat) (w3 : Int32) (x4 : Int32) (np : Int32) (nt : Int32) (nho : Nat → Int32) (nli : Nat → Int32) (nki : Nat → Int32) (nfd : Nat → Int32) (nfr : Nat → Int32) (nto : Nat → Int32) (nse : Nat → Int32) (nhl : Nat → Int32) (H : Heap) (locs : List Loc) (ls : Array Slot), (64 - x4.toInt).toNat < fu_5 → (1 ≤ x4.toInt ∧ x4.toInt ≤ 64) → (0 ≤ np.toInt ∧ np.toInt ≤ 5) → (0 ≤ nt.toInt ∧ nt.toInt ≤ 6) → (prs Ftx le.toInt (12 - np.toInt - nt.toInt).toNat x4.toInt np.toInt nt.toInt = prs Ftx le.toInt 12 1 0 0) → va_P D vwCl [(h0, .inr (0, [.int np, .int nt, .ref lho, .ref lli, .ref lki, .ref lfd, .ref lfr, .ref lto, .ref lse, .ref lhl])), (lho, .inl (cI, 5, .inl nho)), (lli, .inl (cI, 5, .inl nli)), (lki, .inl (cI, 5, .inl nki)), (lfd, .inl (cI, 7, .inl nfd)), (lfr, .inl (cI, 7, .inl nfr)), (lto, .inl (cI, 7, .inl nto)), (lse, .inl (cI, 7, .inl nse)), (lhl, .inl (cI, 7, .inl nhl)), (tx, .inl (cI, 64, .inl Ftx))] H → va_D A [(h0, .inr (0, [.int np, .int nt, .ref lho, .ref lli, .ref lki, .ref lfd, .ref lfr, .ref lto, .ref lse, .ref lhl])), (lho, .inl (cI, 5, .inl nho)), (lli, .inl (cI, 5, .inl nli)), (lki, .inl (cI, 5, .inl nki)), (lfd, .inl (cI, 7, .inl nfd)), (lfr, .inl (cI, 7, .inl nfr)), (lto, .inl (cI, 7, .inl nto)), (lse, .inl (cI, 7, .inl nse)), (lhl, .inl (cI, 7, .inl nhl)), (tx, .inl (cI, 64, .inl Ftx))] → va_S A s.heap H locs → lv_has ls 6 [(0, .ref h0), (1, .ref tx), (2, .int le), (3, .int w3), (4, .int x4)] → W p l e R s m args below meth c H locs 0 0 Q (F0 m 36 ls []) := by
          intro fu_5
          induction fu_5 with
          | zero => intro w3 x4 np nt nho nli nki nfd nfr nto nse nhl H locs ls hmu; exact absurd hmu (Nat.not_lt_zero _)
          | succ fu_5 ih =>
            intro w3 x4 np nt nho nli nki nfd nfr nto nse nhl H locs ls hmu h_x4 h_np h_nt hq hP hD hS hl
            obtain ⟨h_x4a, h_x4b⟩ := h_x4
            obtain ⟨h_npa, h_npb⟩ := h_np
            obtain ⟨h_nta, h_ntb⟩ := h_nt
            have ih_6 := ih
            clear ih
            refine lv_iload hx hb dX0_read_36 (lv_at hl 4 rfl) ?_
            refine lv_iload_n hx hb dX0_read_38 rfl (lv_at hl 2 rfl) ?_
            refine lv_icmp_ge (tgt := 96) hx hb dX0_read_39 (by decide) (fun c_7 => ?_) (fun c_7 => ?_)
            · have tc_7 := b_le rfl rfl c_7
              refine lv_bipush (v := (-9)) hx hb dX0_read_96 (by decide) ?_
              exact ret_i (post := (fun (r : Int32) (u : Int32 × Int32 × (Nat → Int32) × (Nat → Int32) × (Nat → Int32) × (Nat → Int32) × (Nat → Int32) × (Nat → Int32) × (Nat → Int32) × (Nat → Int32)) => r.toInt = (flt Ftx le.toInt).1 ∧ (r.toInt = -9 → u.1.toInt = (flt Ftx le.toInt).2.1 ∧ u.2.1.toInt = (flt Ftx le.toInt).2.2) ∧ 0 ≤ u.1.toInt ∧ u.1.toInt ≤ 5 ∧ 0 ≤ u.2.1.toInt ∧ u.2.1.toInt ≤ 6)) (W1 := (fun u => [(h0, .inr (0, [.int u.1, .int u.2.1, .ref lho, .ref lli, .ref lki, .ref lfd, .ref lfr, .ref lto, .ref lse, .ref lhl])), (lho, .inl (cI, 5, .inl u.2.2.1)), (lli, .inl (cI, 5, .inl u.2.2.2.1)), (lki, .inl (cI, 5, .inl u.2.2.2.2.1)), (lfd, .inl (cI, 7, .inl u.2.2.2.2.2.1)), (lfr, .inl (cI, 7, .inl u.2.2.2.2.2.2.1)), (lto, .inl (cI, 7, .inl u.2.2.2.2.2.2.2.1)), (lse, .inl (cI, 7, .inl u.2.2.2.2.2.2.2.2.1)), (lhl, .inl (cI, 7, .inl u.2.2.2.2.2.2.2.2.2)), (tx, .inl (cI, 64, .inl Ftx))])) (np, nt, nho, nli, nki, nfd, nfr, nto, nse, nhl) hx hb hr hlocks rfl hQ hK hP hD hS ⟨by decide, by decide⟩ dX0_read_98 (show (-9 : Int) = (flt Ftx le.toInt).1 ∧ ((-9 : Int) = -9 → np.toInt = (flt Ftx le.toInt).2.1 ∧ nt.toInt = (flt Ftx le.toInt).2.2) ∧ 0 ≤ np.toInt ∧ np.toInt ≤ 5 ∧ 0 ≤ nt.toInt ∧ nt.toInt ≤ 6 from ⟨by rw [hT, prs_end hq (by omega) (by omega) (by omega)], fun _ => by rw [hT, prs_end hq (by omega) (by omega) (by omega)]; exact ⟨rfl, rfl⟩, by omega, by omega, by omega, by omega⟩)
            · have tc_7 := b_nle rfl rfl c_7
              refine lv_aload_n hx hb dX0_read_42 rfl (lv_at hl 0 rfl) ?_
              refine lv_aload_n hx hb dX0_read_43 rfl (lv_at hl 1 rfl) ?_
              refine lv_iload hx hb dX0_read_44 (lv_at hl 4 rfl) ?_
              refine va_iald hx hb hK hP 9 0 rfl rfl (vp_in_iff.mpr ⟨by omega, by omega⟩) dX0_read_46 ?_
              refine lv_topi (fun v_8 ev_8 => ?_)
              have tv_8 : v_8.toInt = (Ftx x4.toInt.toNat).toInt := by rw [ev_8, cl_of]
              refine cV_i (As := [.int v_8]) (rest := []) ⟨hx, hb, hml, hown, hts⟩ (t_X0_partSize l D cI cZ cM h0 v_8 np nt lho lli lki lfd lfr lto lse lhl _ ) (cwV 1 hts gX0_read_X0_partSize rfl rfl rfl (by decide +kernel) ⟨by rw [hR]; decide, by rw [hR]; decide⟩) hK hP hD hS hA [0] [1, 2, 3, 4, 5, 6, 7, 8, 9] rfl rfl (by decide) (by decide) (by decide) rfl 0 rfl hl.1 rfl rfl (Nat.le_of_ble_eq_true rfl) dX0_read_47 ⟨by rw [hR]; decide, by rw [hR]; decide⟩ (fun r_9 u_10 H locs hw hP hD hS => ?_)
              have hP : va_P D vwCl [(h0, .inr (0, [.int np, .int nt, .ref lho, .ref lli, .ref lki, .ref lfd, .ref lfr, .ref lto, .ref lse, .ref lhl])), (lho, .inl (cI, 5, .inl nho)), (lli, .inl (cI, 5, .inl nli)), (lki, .inl (cI, 5, .inl nki)), (lfd, .inl (cI, 7, .inl nfd)), (lfr, .inl (cI, 7, .inl nfr)), (lto, .inl (cI, 7, .inl nto)), (lse, .inl (cI, 7, .inl nse)), (lhl, .inl (cI, 7, .inl nhl)), (tx, .inl (cI, 64, .inl Ftx))] H := hP.sub [9, 0, 1, 2, 3, 4, 5, 6, 7, 8] rfl
              have hD : va_D A [(h0, .inr (0, [.int np, .int nt, .ref lho, .ref lli, .ref lki, .ref lfd, .ref lfr, .ref lto, .ref lse, .ref lhl])), (lho, .inl (cI, 5, .inl nho)), (lli, .inl (cI, 5, .inl nli)), (lki, .inl (cI, 5, .inl nki)), (lfd, .inl (cI, 7, .inl nfd)), (lfr, .inl (cI, 7, .inl nfr)), (lto, .inl (cI, 7, .inl nto)), (lse, .inl (cI, 7, .inl nse)), (lhl, .inl (cI, 7, .inl nhl)), (tx, .inl (cI, 64, .inl Ftx))] := hD.sub [9, 0, 1, 2, 3, 4, 5, 6, 7, 8] (by decide) rfl
              refine W.widen (k := 0) (n := 0) (Nat.le_refl _) (Nat.le_refl _) ?_
              have hw : (r_9.toInt = 4 ∧ v_8.toInt = 80 ∧ np.toInt < 5) ∨ (r_9.toInt = 6 ∧ v_8.toInt = 84 ∧ nt.toInt < 6 ∧ 0 < np.toInt) ∨ (r_9.toInt = 0 ∧ (v_8.toInt ≠ 80 ∨ 5 ≤ np.toInt) ∧ (v_8.toInt ≠ 84 ∨ 6 ≤ nt.toInt ∨ np.toInt ≤ 0)) := hw
              have hw_11 := hw
              refine lv_istore_n (lv' := [(3, .int r_9), (0, .ref h0), (1, .ref tx), (2, .int le), (4, .int x4)]) hx hb dX0_read_50 rfl hl (by decide) rfl (fun ls hl => ?_)
              refine lv_iload_n hx hb dX0_read_51 rfl (lv_at hl 0 rfl) ?_
              refine lv_if_ne (tgt := 58) hx hb dX0_read_52 (by decide) (fun c_12 => ?_) (fun c_12 => ?_)
              · have tc_12 := b_ne rfl (show (0 : Int32).toInt = 0 by decide) c_12
                refine lv_aload_n hx hb dX0_read_58 rfl (lv_at hl 1 rfl) ?_
                refine lv_aload_n hx hb dX0_read_59 rfl (lv_at hl 2 rfl) ?_
                refine lv_iload_n hx hb dX0_read_60 rfl (lv_at hl 3 rfl) ?_
                refine lv_iload hx hb dX0_read_61 (lv_at hl 4 rfl) ?_
                refine lv_iload_n hx hb dX0_read_63 rfl (lv_at hl 0 rfl) ?_
                refine cV_i (As := [.ref tx, .int le, .int x4, .int r_9]) (rest := []) ⟨hx, hb, hml, hown, hts⟩ (t_X0_partFault l D cI cZ cM h0 tx le x4 r_9 np nt lho lli lki lfd lfr lto lse lhl Ftx _ hTx (show 0 ≤ le.toInt ∧ le.toInt ≤ 64 by omega) (show 0 ≤ x4.toInt ∧ x4.toInt ≤ 63 by omega) (show 4 ≤ r_9.toInt ∧ r_9.toInt ≤ 6 by omega)) (cwV 4 hts gX0_read_X0_partFault rfl rfl rfl (by decide +kernel) ⟨by rw [hR]; decide, by rw [hR]; decide⟩) hK hP hD hS hA [0, 9] [1, 2, 3, 4, 5, 6, 7, 8] rfl rfl (by decide) (by decide) (by decide) rfl 0 rfl hl.1 rfl rfl (Nat.le_of_ble_eq_true rfl) dX0_read_64 ⟨by rw [hR]; decide, by rw [hR]; decide⟩ (fun r_13 u_14 H locs hw hP hD hS => ?_)
                have hP : va_P D vwCl [(h0, .inr (0, [.int np, .int nt, .ref lho, .ref lli, .ref lki, .ref lfd, .ref lfr, .ref lto, .ref lse, .ref lhl])), (lho, .inl (cI, 5, .inl nho)), (lli, .inl (cI, 5, .inl nli)), (lki, .inl (cI, 5, .inl nki)), (lfd, .inl (cI, 7, .inl nfd)), (lfr, .inl (cI, 7, .inl nfr)), (lto, .inl (cI, 7, .inl nto)), (lse, .inl (cI, 7, .inl nse)), (lhl, .inl (cI, 7, .inl nhl)), (tx, .inl (cI, 64, .inl Ftx))] H := hP.sub [8, 0, 1, 2, 3, 4, 5, 6, 7, 9] rfl
                have hD : va_D A [(h0, .inr (0, [.int np, .int nt, .ref lho, .ref lli, .ref lki, .ref lfd, .ref lfr, .ref lto, .ref lse, .ref lhl])), (lho, .inl (cI, 5, .inl nho)), (lli, .inl (cI, 5, .inl nli)), (lki, .inl (cI, 5, .inl nki)), (lfd, .inl (cI, 7, .inl nfd)), (lfr, .inl (cI, 7, .inl nfr)), (lto, .inl (cI, 7, .inl nto)), (lse, .inl (cI, 7, .inl nse)), (lhl, .inl (cI, 7, .inl nhl)), (tx, .inl (cI, 64, .inl Ftx))] := hD.sub [8, 0, 1, 2, 3, 4, 5, 6, 7, 9] (by decide) rfl
                refine W.widen (k := 0) (n := 0) (Nat.le_refl _) (Nat.le_refl _) ?_
                have hw : r_13.toInt = pf Ftx le.toInt x4.toInt np.toInt r_9.toInt 6 1 ∧ ((r_13.toInt = -9 ∧ x4.toInt + r_9.toInt ≤ le.toInt) ∨ 0 ≤ r_13.toInt) := hw
                have hw_15 := hw
                refine lv_istore (lv' := [(5, .int r_13), (3, .int r_9), (0, .ref h0), (1, .ref tx), (2, .int le), (4, .int x4)]) hx hb dX0_read_67 hl (by decide) rfl (fun ls hl => ?_)
                refine lv_iload hx hb dX0_read_69 (lv_at hl 0 rfl) ?_
                refine lv_bipush (v := (-9)) hx hb dX0_read_71 (by decide) ?_
                refine lv_icmp_eq (tgt := 79) hx hb dX0_read_73 (by decide) (fun c_16 => ?_) (fun c_16 => ?_)
                · have tc_16 := b_eq rfl (show ((-9) : Int32).toInt = -9 by decide) c_16
                  refine lv_aload_n hx hb dX0_read_79 rfl (lv_at hl 2 rfl) ?_
                  refine lv_aload_n hx hb dX0_read_80 rfl (lv_at hl 3 rfl) ?_
                  refine lv_iload hx hb dX0_read_81 (lv_at hl 5 rfl) ?_
                  refine lv_iload_n hx hb dX0_read_83 rfl (lv_at hl 1 rfl) ?_
                  refine cV_v (As := [.ref tx, .int x4, .int r_9]) (rest := []) ⟨hx, hb, hml, hown, hts⟩ (t_X0_takePart l D cI cZ cM h0 tx x4 r_9 np nt lho lli lki lfd lfr lto lse lhl nho nli nki nfd nfr nto nse nhl Ftx _ (show (r_9.toInt = 4 ∧ np.toInt < 5 ∧ x4.toInt + 4 ≤ 64) ∨ (r_9.toInt = 6 ∧ nt.toInt < 6 ∧ x4.toInt + 6 ≤ 64) by omega) (show 0 ≤ x4.toInt ∧ x4.toInt ≤ 63 by omega) (show 0 ≤ np.toInt ∧ np.toInt ≤ 5 by omega) (show 0 ≤ nt.toInt ∧ nt.toInt ≤ 6 by omega)) (cwV 3 hts gX0_read_X0_takePart rfl rfl rfl (by decide +kernel) ⟨by rw [hR]; decide, by rw [hR]; decide⟩) hK hP hD hS hA [0, 1, 2, 3, 4, 5, 6, 7, 8, 9] [] rfl rfl (by decide) (by decide) (by decide) rfl 0 rfl hl.1 rfl rfl (Nat.le_of_ble_eq_true rfl) dX0_read_84 ⟨by rw [hR]; decide, by rw [hR]; decide⟩ (fun u_28 H locs hw hP hD hS => ?_)
                  obtain ⟨pe1_17, tk1_18, Gho_19, Gli_20, Gki_21, Gfd_22, Gfr_23, Gto_24, Gse_25, Ghl_26⟩ := u_28
                  have hP : va_P D vwCl [(h0, .inr (0, [.int pe1_17, .int tk1_18, .ref lho, .ref lli, .ref lki, .ref lfd, .ref lfr, .ref lto, .ref lse, .ref lhl])), (lho, .inl (cI, 5, .inl Gho_19)), (lli, .inl (cI, 5, .inl Gli_20)), (lki, .inl (cI, 5, .inl Gki_21)), (lfd, .inl (cI, 7, .inl Gfd_22)), (lfr, .inl (cI, 7, .inl Gfr_23)), (lto, .inl (cI, 7, .inl Gto_24)), (lse, .inl (cI, 7, .inl Gse_25)), (lhl, .inl (cI, 7, .inl Ghl_26)), (tx, .inl (cI, 64, .inl Ftx))] H := hP.sub [0, 1, 2, 3, 4, 5, 6, 7, 8, 9] rfl
                  have hD : va_D A [(h0, .inr (0, [.int pe1_17, .int tk1_18, .ref lho, .ref lli, .ref lki, .ref lfd, .ref lfr, .ref lto, .ref lse, .ref lhl])), (lho, .inl (cI, 5, .inl Gho_19)), (lli, .inl (cI, 5, .inl Gli_20)), (lki, .inl (cI, 5, .inl Gki_21)), (lfd, .inl (cI, 7, .inl Gfd_22)), (lfr, .inl (cI, 7, .inl Gfr_23)), (lto, .inl (cI, 7, .inl Gto_24)), (lse, .inl (cI, 7, .inl Gse_25)), (lhl, .inl (cI, 7, .inl Ghl_26)), (tx, .inl (cI, 64, .inl Ftx))] := hD.sub [0, 1, 2, 3, 4, 5, 6, 7, 8, 9] (by decide) rfl
                  refine W.widen (k := 0) (n := 0) (Nat.le_refl _) (Nat.le_refl _) ?_
                  have hw : (r_9.toInt = 4 → pe1_17.toInt = np.toInt + 1 ∧ tk1_18.toInt = nt.toInt) ∧ (r_9.toInt = 6 → pe1_17.toInt = np.toInt ∧ tk1_18.toInt = nt.toInt + 1) ∧ 0 ≤ pe1_17.toInt ∧ pe1_17.toInt ≤ 5 ∧ 0 ≤ tk1_18.toInt ∧ tk1_18.toInt ≤ 6 := hw
                  have hw_29 := hw
                  refine lv_iload hx hb dX0_read_87 (lv_at hl 5 rfl) ?_
                  refine lv_iload_n hx hb dX0_read_89 rfl (lv_at hl 1 rfl) ?_
                  refine lv_iadd hx hb dX0_read_90 ?_
                  refine lv_topi (fun v_30 ev_30 => ?_)
                  have tv_30 : v_30.toInt = x4.toInt + r_9.toInt := by rw [ev_30]; exact ti_add (x := x4) (y := r_9) (show -2147483648 ≤ x4.toInt + r_9.toInt by omega) (show x4.toInt + r_9.toInt < 2147483648 by omega)
                  refine lv_istore (lv' := [(4, .int v_30), (5, .int r_13), (3, .int r_9), (0, .ref h0), (1, .ref tx), (2, .int le)]) hx hb dX0_read_91 hl (by decide) rfl (fun ls hl => ?_)
                  refine lv_goto (tgt := 36) hx hb dX0_read_93 (by decide) ?_
                  exact ih_6 r_9 v_30 pe1_17 tk1_18 Gho_19 Gli_20 Gki_21 Gfd_22 Gfr_23 Gto_24 Gse_25 Ghl_26 _ _ _ (show (64 - v_30.toInt).toNat < fu_5 by omega) (show 1 ≤ v_30.toInt ∧ v_30.toInt ≤ 64 by omega) (show 0 ≤ pe1_17.toInt ∧ pe1_17.toInt ≤ 5 by omega) (show 0 ≤ tk1_18.toInt ∧ tk1_18.toInt ≤ 6 by omega) (prs_go (z := r_9.toInt) hq (by omega) (by omega) (by omega) (by omega) (by omega) (by omega)) hP hD hS (lv_sub hl [3, 4, 5, 2, 0] rfl)
                · have tc_16 := b_ne rfl (show ((-9) : Int32).toInt = -9 by decide) c_16
                  refine lv_iload hx hb dX0_read_76 (lv_at hl 0 rfl) ?_
                  exact ret_i (post := (fun (r : Int32) (u : Int32 × Int32 × (Nat → Int32) × (Nat → Int32) × (Nat → Int32) × (Nat → Int32) × (Nat → Int32) × (Nat → Int32) × (Nat → Int32) × (Nat → Int32)) => r.toInt = (flt Ftx le.toInt).1 ∧ (r.toInt = -9 → u.1.toInt = (flt Ftx le.toInt).2.1 ∧ u.2.1.toInt = (flt Ftx le.toInt).2.2) ∧ 0 ≤ u.1.toInt ∧ u.1.toInt ≤ 5 ∧ 0 ≤ u.2.1.toInt ∧ u.2.1.toInt ≤ 6)) (W1 := (fun u => [(h0, .inr (0, [.int u.1, .int u.2.1, .ref lho, .ref lli, .ref lki, .ref lfd, .ref lfr, .ref lto, .ref lse, .ref lhl])), (lho, .inl (cI, 5, .inl u.2.2.1)), (lli, .inl (cI, 5, .inl u.2.2.2.1)), (lki, .inl (cI, 5, .inl u.2.2.2.2.1)), (lfd, .inl (cI, 7, .inl u.2.2.2.2.2.1)), (lfr, .inl (cI, 7, .inl u.2.2.2.2.2.2.1)), (lto, .inl (cI, 7, .inl u.2.2.2.2.2.2.2.1)), (lse, .inl (cI, 7, .inl u.2.2.2.2.2.2.2.2.1)), (lhl, .inl (cI, 7, .inl u.2.2.2.2.2.2.2.2.2)), (tx, .inl (cI, 64, .inl Ftx))])) (np, nt, nho, nli, nki, nfd, nfr, nto, nse, nhl) hx hb hr hlocks rfl hQ hK hP hD hS ⟨by decide, by decide⟩ dX0_read_78 (show r_13.toInt = (flt Ftx le.toInt).1 ∧ (r_13.toInt = -9 → np.toInt = (flt Ftx le.toInt).2.1 ∧ nt.toInt = (flt Ftx le.toInt).2.2) ∧ 0 ≤ np.toInt ∧ np.toInt ≤ 5 ∧ 0 ≤ nt.toInt ∧ nt.toInt ≤ 6 from ⟨(by have h := prs_stop (z := r_9.toInt) hq (by omega) (by omega) (by omega) (by omega) (by omega); rw [← hT] at h; omega), fun q => absurd q (by omega), by omega, by omega, by omega, by omega⟩)
              · have tc_12 := b_eq rfl (show (0 : Int32).toInt = 0 by decide) c_12
                refine lv_iload hx hb dX0_read_55 (lv_at hl 4 rfl) ?_
                exact ret_i (post := (fun (r : Int32) (u : Int32 × Int32 × (Nat → Int32) × (Nat → Int32) × (Nat → Int32) × (Nat → Int32) × (Nat → Int32) × (Nat → Int32) × (Nat → Int32) × (Nat → Int32)) => r.toInt = (flt Ftx le.toInt).1 ∧ (r.toInt = -9 → u.1.toInt = (flt Ftx le.toInt).2.1 ∧ u.2.1.toInt = (flt Ftx le.toInt).2.2) ∧ 0 ≤ u.1.toInt ∧ u.1.toInt ≤ 5 ∧ 0 ≤ u.2.1.toInt ∧ u.2.1.toInt ≤ 6)) (W1 := (fun u => [(h0, .inr (0, [.int u.1, .int u.2.1, .ref lho, .ref lli, .ref lki, .ref lfd, .ref lfr, .ref lto, .ref lse, .ref lhl])), (lho, .inl (cI, 5, .inl u.2.2.1)), (lli, .inl (cI, 5, .inl u.2.2.2.1)), (lki, .inl (cI, 5, .inl u.2.2.2.2.1)), (lfd, .inl (cI, 7, .inl u.2.2.2.2.2.1)), (lfr, .inl (cI, 7, .inl u.2.2.2.2.2.2.1)), (lto, .inl (cI, 7, .inl u.2.2.2.2.2.2.2.1)), (lse, .inl (cI, 7, .inl u.2.2.2.2.2.2.2.2.1)), (lhl, .inl (cI, 7, .inl u.2.2.2.2.2.2.2.2.2)), (tx, .inl (cI, 64, .inl Ftx))])) (np, nt, nho, nli, nki, nfd, nfr, nto, nse, nhl) hx hb hr hlocks rfl hQ hK hP hD hS ⟨by decide, by decide⟩ dX0_read_57 (show x4.toInt = (flt Ftx le.toInt).1 ∧ (x4.toInt = -9 → np.toInt = (flt Ftx le.toInt).2.1 ∧ nt.toInt = (flt Ftx le.toInt).2.2) ∧ 0 ≤ np.toInt ∧ np.toInt ≤ 5 ∧ 0 ≤ nt.toInt ∧ nt.toInt ≤ 6 from ⟨by rw [hT, prs_none hq (by omega) (by omega) (by omega) (by omega) (by omega)], fun q => absurd q (by omega), by omega, by omega, by omega, by omega⟩)
        exact LOOP_5 _ 0 1 0 0 lFho lFli lFki lFfd lFfr lFto lFse lFhl _ _ _ (Nat.lt_succ_self _) (by decide) (by decide) (by decide) (rfl) hP hD hS (lv_sub hl [2, 3, 4, 1, 0] rfl)
      · have tc_4 := b_ne rfl (show (76 : Int32).toInt = 76 by decide) c_4
        refine lv_iconst (v := 0) hx hb dX0_read_29 (by decide) ?_
        exact ret_i (post := (fun (r : Int32) (u : Int32 × Int32 × (Nat → Int32) × (Nat → Int32) × (Nat → Int32) × (Nat → Int32) × (Nat → Int32) × (Nat → Int32) × (Nat → Int32) × (Nat → Int32)) => r.toInt = (flt Ftx le.toInt).1 ∧ (r.toInt = -9 → u.1.toInt = (flt Ftx le.toInt).2.1 ∧ u.2.1.toInt = (flt Ftx le.toInt).2.2) ∧ 0 ≤ u.1.toInt ∧ u.1.toInt ≤ 5 ∧ 0 ≤ u.2.1.toInt ∧ u.2.1.toInt ≤ 6)) (W1 := (fun u => [(h0, .inr (0, [.int u.1, .int u.2.1, .ref lho, .ref lli, .ref lki, .ref lfd, .ref lfr, .ref lto, .ref lse, .ref lhl])), (lho, .inl (cI, 5, .inl u.2.2.1)), (lli, .inl (cI, 5, .inl u.2.2.2.1)), (lki, .inl (cI, 5, .inl u.2.2.2.2.1)), (lfd, .inl (cI, 7, .inl u.2.2.2.2.2.1)), (lfr, .inl (cI, 7, .inl u.2.2.2.2.2.2.1)), (lto, .inl (cI, 7, .inl u.2.2.2.2.2.2.2.1)), (lse, .inl (cI, 7, .inl u.2.2.2.2.2.2.2.2.1)), (lhl, .inl (cI, 7, .inl u.2.2.2.2.2.2.2.2.2)), (tx, .inl (cI, 64, .inl Ftx))])) (0, 0, lFho, lFli, lFki, lFfd, lFfr, lFto, lFse, lFhl) hx hb hr hlocks rfl hQ hK hP hD hS ⟨by decide, by decide⟩ dX0_read_30 (show (0 : Int) = (flt Ftx le.toInt).1 ∧ ((0 : Int) = -9 → (0 : Int) = (flt Ftx le.toInt).2.1 ∧ (0 : Int) = (flt Ftx le.toInt).2.2) ∧ 0 ≤ (0 : Int) ∧ (0 : Int) ≤ 5 ∧ 0 ≤ (0 : Int) ∧ (0 : Int) ≤ 6 from ⟨by rw [flt_no (F := Ftx) (n := le.toInt) (by omega)], fun q => absurd q (by decide), by decide, by decide, by decide, by decide⟩)

set_option maxHeartbeats 600000 in
set_option maxRecDepth 100000 in
theorem t_X3_fault (l : Launch) (D : va_G) (cI cZ cM : ClassId) (h0 : Nat) (tx : Nat) (le : Int32) (td : Nat) (dr : Nat) (nw : Nat) (ac : Nat) (fa : Int32) (an : Int32) (kp : Nat) (ks : Int32) (sp : Nat) (ss : Nat) (sy : Nat) (sc : Int32) (sd : Int64) (tr : Nat) (ia : Nat) (Ftx : Nat → Int32) (dpe : Int32) (dtk : Int32) (dho : Nat) (dli : Nat) (dki : Nat) (dfd : Nat) (dfr : Nat) (dto : Nat) (dse : Nat) (dhl : Nat) (dFho : Nat → Int32) (dFli : Nat → Int32) (dFki : Nat → Int32) (dFfd : Nat → Int32) (dFfr : Nat → Int32) (dFto : Nat → Int32) (dFse : Nat → Int32) (dFhl : Nat → Int32) (sz : Nat) (hTx : TxOk Ftx) (h_le : 0 ≤ le.toInt ∧ le.toInt ≤ 64) : Ci l yX3_fault wsX3_fault ({ frames := 3, cells := 0, slots := 0, locals := 76 } : Room) D cI cZ cM [.ref h0] [(h0, .inr (3, [.ref tx, .int le, .ref td, .ref dr, .ref nw, .ref ac, .int fa, .int an, .ref kp, .int ks, .ref sp, .ref ss, .ref sy, .int sc, .long sd, .ref tr, .ref ia])), (tx, .inl (cI, 64, .inl Ftx)), (dr, .inr (0, [.int dpe, .int dtk, .ref dho, .ref dli, .ref dki, .ref dfd, .ref dfr, .ref dto, .ref dse, .ref dhl])), (dho, .inl (cI, 5, .inl dFho)), (dli, .inl (cI, 5, .inl dFli)), (dki, .inl (cI, 5, .inl dFki)), (dfd, .inl (cI, 7, .inl dFfd)), (dfr, .inl (cI, 7, .inl dFfr)), (dto, .inl (cI, 7, .inl dFto)), (dse, .inl (cI, 7, .inl dFse)), (dhl, .inl (cI, 7, .inl dFhl))] sz (fun (r : Int32) (u : Int32 × Int32 × (Nat → Int32) × (Nat → Int32) × (Nat → Int32) × (Nat → Int32) × (Nat → Int32) × (Nat → Int32) × (Nat → Int32) × (Nat → Int32)) => r.toInt = (flt Ftx le.toInt).1 ∧ (0 ≤ u.1.toInt ∧ u.1.toInt ≤ 5) ∧ (0 ≤ u.2.1.toInt ∧ u.2.1.toInt ≤ 6)) (fun u => [(h0, .inr (3, [.ref tx, .int le, .ref td, .ref dr, .ref nw, .ref ac, .int fa, .int an, .ref kp, .int ks, .ref sp, .ref ss, .ref sy, .int sc, .long sd, .ref tr, .ref ia])), (tx, .inl (cI, 64, .inl Ftx)), (dr, .inr (0, [.int u.1, .int u.2.1, .ref dho, .ref dli, .ref dki, .ref dfd, .ref dfr, .ref dto, .ref dse, .ref dhl])), (dho, .inl (cI, 5, .inl u.2.2.1)), (dli, .inl (cI, 5, .inl u.2.2.2.1)), (dki, .inl (cI, 5, .inl u.2.2.2.2.1)), (dfd, .inl (cI, 7, .inl u.2.2.2.2.2.1)), (dfr, .inl (cI, 7, .inl u.2.2.2.2.2.2.1)), (dto, .inl (cI, 7, .inl u.2.2.2.2.2.2.2.1)), (dse, .inl (cI, 7, .inl u.2.2.2.2.2.2.2.2.1)), (dhl, .inl (cI, 7, .inl u.2.2.2.2.2.2.2.2.2))]) 0 0 := by
  refine begins (l := l) (y := yX3_fault) (ws := wsX3_fault) (av := [.ref h0]) (Qc := fun A => va_Qi (fun (r : Int32) (u : Int32 × Int32 × (Nat → Int32) × (Nat → Int32) × (Nat → Int32) × (Nat → Int32) × (Nat → Int32) × (Nat → Int32) × (Nat → Int32) × (Nat → Int32)) => r.toInt = (flt Ftx le.toInt).1 ∧ (0 ≤ u.1.toInt ∧ u.1.toInt ≤ 5) ∧ (0 ≤ u.2.1.toInt ∧ u.2.1.toInt ≤ 6)) (fun u => Wd D cI cZ cM A ((fun u => [(h0, .inr (3, [.ref tx, .int le, .ref td, .ref dr, .ref nw, .ref ac, .int fa, .int an, .ref kp, .int ks, .ref sp, .ref ss, .ref sy, .int sc, .long sd, .ref tr, .ref ia])), (tx, .inl (cI, 64, .inl Ftx)), (dr, .inr (0, [.int u.1, .int u.2.1, .ref dho, .ref dli, .ref dki, .ref dfd, .ref dfr, .ref dto, .ref dse, .ref dhl])), (dho, .inl (cI, 5, .inl u.2.2.1)), (dli, .inl (cI, 5, .inl u.2.2.2.1)), (dki, .inl (cI, 5, .inl u.2.2.2.2.1)), (dfd, .inl (cI, 7, .inl u.2.2.2.2.2.1)), (dfr, .inl (cI, 7, .inl u.2.2.2.2.2.2.1)), (dto, .inl (cI, 7, .inl u.2.2.2.2.2.2.2.1)), (dse, .inl (cI, 7, .inl u.2.2.2.2.2.2.2.2.1)), (dhl, .inl (cI, 7, .inl u.2.2.2.2.2.2.2.2.2))]) u)) A) cX3_fault 1 (some .int) (by decide) rfl (Nat.le_of_ble_eq_true rfl) ?_
  intro p e s m args below meth c R Q A ls hBd hR hQ hA hS hK hP hD hl
  obtain ⟨hx, hb, hr, hts, hown, hlocks, hin, hml⟩ := hBd
  have hl : lv_has ls 1 [(0, .ref h0)] := hl
  have iX3 : ∀ w ∈ wsX30, w ∈ wsX3_fault := fun _ h => List.mem_cons_of_mem _ (List.mem_append_left _ (List.mem_append_right _ h))
  have iX0 : ∀ w ∈ wsX00, w ∈ wsX3_fault := fun _ h => List.mem_cons_of_mem _ (List.mem_append_right _ h)
  obtain ⟨h_lea, h_leb⟩ := h_le
  refine lv_aload_n hx hb dX3_fault_0 rfl (lv_at hl 0 rfl) ?_
  refine va_get (D := D) (ci := 3) (v := .ref dr) (C := RX3) (T := TX3) (N := 17) hx hb hts iX3 hown hK hP 0 rfl rfl 3 (by decide) (hts (.fieldLink RX3 24 "PunchedTicket" "draft" "LPunchedTicket$Line;") (List.mem_of_getElem? (i := 1) rfl)) (fun _ h9 => h9) rfl dX3_fault_1 ?_
  refine lv_aload_n hx hb dX3_fault_4 rfl (lv_at hl 0 rfl) ?_
  refine va_get (D := D) (ci := 3) (v := .ref tx) (C := RX3) (T := TX3) (N := 17) hx hb hts iX3 hown hK hP 0 rfl rfl 0 (by decide) (hts (.fieldLink RX3 9 "PunchedTicket" "text" "[I") (List.mem_of_getElem? (i := 2) rfl)) (fun _ h9 => h9) rfl dX3_fault_5 ?_
  refine lv_aload_n hx hb dX3_fault_8 rfl (lv_at hl 0 rfl) ?_
  refine va_get (D := D) (ci := 3) (v := .int le) (C := RX3) (T := TX3) (N := 17) hx hb hts iX3 hown hK hP 0 rfl rfl 1 (by decide) (hts (.fieldLink RX3 13 "PunchedTicket" "letters" "I") (List.mem_of_getElem? (i := 3) rfl)) (fun _ h9 => h9) rfl dX3_fault_9 ?_
  refine cV_i (As := [.ref tx, .int le]) (rest := []) ⟨hx, hb, hml, hown, hts⟩ (t_X0_read l D cI cZ cM dr tx le dpe dtk dho dli dki dfd dfr dto dse dhl dFho dFli dFki dFfd dFfr dFto dFse dFhl Ftx _ hTx (show 0 ≤ le.toInt ∧ le.toInt ≤ 64 by omega)) (cwV 2 hts gX3_fault_X0_read rfl rfl rfl (by decide +kernel) ⟨by rw [hR]; decide, by rw [hR]; decide⟩) hK hP hD hS hA [2, 3, 4, 5, 6, 7, 8, 9, 10, 1] [0] rfl rfl (by decide) (by decide) (by decide) rfl 2 rfl hl.1 rfl rfl (Nat.le_of_ble_eq_true rfl) dX3_fault_12 ⟨by rw [hR]; decide, by rw [hR]; decide⟩ (fun r_11 u_12 H locs hw hP hD hS => ?_)
  obtain ⟨pe1_1, tk1_2, Gho_3, Gli_4, Gki_5, Gfd_6, Gfr_7, Gto_8, Gse_9, Ghl_10⟩ := u_12
  have hP : va_P D vwCl [(h0, .inr (3, [.ref tx, .int le, .ref td, .ref dr, .ref nw, .ref ac, .int fa, .int an, .ref kp, .int ks, .ref sp, .ref ss, .ref sy, .int sc, .long sd, .ref tr, .ref ia])), (tx, .inl (cI, 64, .inl Ftx)), (dr, .inr (0, [.int pe1_1, .int tk1_2, .ref dho, .ref dli, .ref dki, .ref dfd, .ref dfr, .ref dto, .ref dse, .ref dhl])), (dho, .inl (cI, 5, .inl Gho_3)), (dli, .inl (cI, 5, .inl Gli_4)), (dki, .inl (cI, 5, .inl Gki_5)), (dfd, .inl (cI, 7, .inl Gfd_6)), (dfr, .inl (cI, 7, .inl Gfr_7)), (dto, .inl (cI, 7, .inl Gto_8)), (dse, .inl (cI, 7, .inl Gse_9)), (dhl, .inl (cI, 7, .inl Ghl_10))] H := hP.sub [0, 10, 1, 2, 3, 4, 5, 6, 7, 8, 9] rfl
  have hD : va_D A [(h0, .inr (3, [.ref tx, .int le, .ref td, .ref dr, .ref nw, .ref ac, .int fa, .int an, .ref kp, .int ks, .ref sp, .ref ss, .ref sy, .int sc, .long sd, .ref tr, .ref ia])), (tx, .inl (cI, 64, .inl Ftx)), (dr, .inr (0, [.int pe1_1, .int tk1_2, .ref dho, .ref dli, .ref dki, .ref dfd, .ref dfr, .ref dto, .ref dse, .ref dhl])), (dho, .inl (cI, 5, .inl Gho_3)), (dli, .inl (cI, 5, .inl Gli_4)), (dki, .inl (cI, 5, .inl Gki_5)), (dfd, .inl (cI, 7, .inl Gfd_6)), (dfr, .inl (cI, 7, .inl Gfr_7)), (dto, .inl (cI, 7, .inl Gto_8)), (dse, .inl (cI, 7, .inl Gse_9)), (dhl, .inl (cI, 7, .inl Ghl_10))] := hD.sub [0, 10, 1, 2, 3, 4, 5, 6, 7, 8, 9] (by decide) rfl
  refine W.widen (k := 0) (n := 0) (Nat.le_refl _) (Nat.le_refl _) ?_
  have hw : r_11.toInt = (flt Ftx le.toInt).1 ∧ (r_11.toInt = -9 → pe1_1.toInt = (flt Ftx le.toInt).2.1 ∧ tk1_2.toInt = (flt Ftx le.toInt).2.2) ∧ 0 ≤ pe1_1.toInt ∧ pe1_1.toInt ≤ 5 ∧ 0 ≤ tk1_2.toInt ∧ tk1_2.toInt ≤ 6 := hw
  have hw_13 := hw
  exact ret_i (post := (fun (r : Int32) (u : Int32 × Int32 × (Nat → Int32) × (Nat → Int32) × (Nat → Int32) × (Nat → Int32) × (Nat → Int32) × (Nat → Int32) × (Nat → Int32) × (Nat → Int32)) => r.toInt = (flt Ftx le.toInt).1 ∧ (0 ≤ u.1.toInt ∧ u.1.toInt ≤ 5) ∧ (0 ≤ u.2.1.toInt ∧ u.2.1.toInt ≤ 6))) (W1 := (fun u => [(h0, .inr (3, [.ref tx, .int le, .ref td, .ref dr, .ref nw, .ref ac, .int fa, .int an, .ref kp, .int ks, .ref sp, .ref ss, .ref sy, .int sc, .long sd, .ref tr, .ref ia])), (tx, .inl (cI, 64, .inl Ftx)), (dr, .inr (0, [.int u.1, .int u.2.1, .ref dho, .ref dli, .ref dki, .ref dfd, .ref dfr, .ref dto, .ref dse, .ref dhl])), (dho, .inl (cI, 5, .inl u.2.2.1)), (dli, .inl (cI, 5, .inl u.2.2.2.1)), (dki, .inl (cI, 5, .inl u.2.2.2.2.1)), (dfd, .inl (cI, 7, .inl u.2.2.2.2.2.1)), (dfr, .inl (cI, 7, .inl u.2.2.2.2.2.2.1)), (dto, .inl (cI, 7, .inl u.2.2.2.2.2.2.2.1)), (dse, .inl (cI, 7, .inl u.2.2.2.2.2.2.2.2.1)), (dhl, .inl (cI, 7, .inl u.2.2.2.2.2.2.2.2.2))])) (pe1_1, tk1_2, Gho_3, Gli_4, Gki_5, Gfd_6, Gfr_7, Gto_8, Gse_9, Ghl_10) hx hb hr hlocks rfl hQ hK hP hD hS ⟨by decide, by decide⟩ dX3_fault_15 (show r_11.toInt = (flt Ftx le.toInt).1 ∧ (0 ≤ pe1_1.toInt ∧ pe1_1.toInt ≤ 5) ∧ (0 ≤ tk1_2.toInt ∧ tk1_2.toInt ≤ 6) from ⟨by omega, by omega, by omega⟩)

set_option maxHeartbeats 600000 in
set_option maxRecDepth 100000 in
theorem t_X3_line (l : Launch) (D : va_G) (cI cZ cM : ClassId) (h0 : Nat) (tx : Nat) (le : Int32) (td : Nat) (dr : Nat) (nw : Nat) (ac : Nat) (fa : Int32) (an : Int32) (kp : Nat) (ks : Int32) (sp : Nat) (ss : Nat) (sy : Nat) (sc : Int32) (sd : Int64) (tr : Nat) (ia : Nat) (Ftx : Nat → Int32) (dpe : Int32) (dtk : Int32) (dho : Nat) (dli : Nat) (dki : Nat) (dfd : Nat) (dfr : Nat) (dto : Nat) (dse : Nat) (dhl : Nat) (dFho : Nat → Int32) (dFli : Nat → Int32) (dFki : Nat → Int32) (dFfd : Nat → Int32) (dFfr : Nat → Int32) (dFto : Nat → Int32) (dFse : Nat → Int32) (dFhl : Nat → Int32) (lpe : Int32) (ltk : Int32) (lho : Nat) (lli : Nat) (lki : Nat) (lfd : Nat) (lfr : Nat) (lto : Nat) (lse : Nat) (lhl : Nat) (lFho : Nat → Int32) (lFli : Nat → Int32) (lFki : Nat → Int32) (lFfd : Nat → Int32) (lFfr : Nat → Int32) (lFto : Nat → Int32) (lFse : Nat → Int32) (lFhl : Nat → Int32) (md : Int32) (mt : Int32) (mr : Int32) (mg : Int32) (mat : Nat) (mfd : Nat) (mhd : Nat) (mFat : Nat → Int32) (mFfd : Nat → Int32) (mFhd : Nat → Int32) (sz : Nat) (hTx : TxOk Ftx) (h_md : 0 ≤ md.toInt ∧ md.toInt ≤ 10) (h_mt : 0 ≤ mt.toInt ∧ mt.toInt ≤ 6) (h_lpe : 0 ≤ lpe.toInt ∧ lpe.toInt ≤ 5) (h_ltk : 0 ≤ ltk.toInt ∧ ltk.toInt ≤ 6) (h_le : 0 ≤ le.toInt ∧ le.toInt ≤ 64) (h_fa : 0 ≤ fa.toInt ∧ fa.toInt ≤ 13) (h_an : 0 ≤ an.toInt ∧ an.toInt ≤ 14) : Ci l yX3_line wsX3_line ({ frames := 3, cells := 0, slots := 0, locals := 76 } : Room) D cI cZ cM [.ref h0] [(h0, .inr (3, [.ref tx, .int le, .ref td, .ref dr, .ref nw, .ref ac, .int fa, .int an, .ref kp, .int ks, .ref sp, .ref ss, .ref sy, .int sc, .long sd, .ref tr, .ref ia])), (tx, .inl (cI, 64, .inl Ftx)), (dr, .inr (0, [.int dpe, .int dtk, .ref dho, .ref dli, .ref dki, .ref dfd, .ref dfr, .ref dto, .ref dse, .ref dhl])), (dho, .inl (cI, 5, .inl dFho)), (dli, .inl (cI, 5, .inl dFli)), (dki, .inl (cI, 5, .inl dFki)), (dfd, .inl (cI, 7, .inl dFfd)), (dfr, .inl (cI, 7, .inl dFfr)), (dto, .inl (cI, 7, .inl dFto)), (dse, .inl (cI, 7, .inl dFse)), (dhl, .inl (cI, 7, .inl dFhl)), (td, .inr (0, [.int lpe, .int ltk, .ref lho, .ref lli, .ref lki, .ref lfd, .ref lfr, .ref lto, .ref lse, .ref lhl])), (lho, .inl (cI, 5, .inl lFho)), (lli, .inl (cI, 5, .inl lFli)), (lki, .inl (cI, 5, .inl lFki)), (lfd, .inl (cI, 7, .inl lFfd)), (lfr, .inl (cI, 7, .inl lFfr)), (lto, .inl (cI, 7, .inl lFto)), (lse, .inl (cI, 7, .inl lFse)), (lhl, .inl (cI, 7, .inl lFhl)), (nw, .inr (1, [.ref td, .int md, .int mt, .int mr, .int mg, .ref mat, .ref mfd, .ref mhd])), (mat, .inl (cI, 5, .inl mFat)), (mfd, .inl (cI, 7, .inl mFfd)), (mhd, .inl (cI, 7, .inl mFhd))] sz (fun (r : Int32) (u : Int32 × Int32 × Int32 × Int32 × Int32 × (Nat → Int32) × (Nat → Int32) × (Nat → Int32) × (Nat → Int32) × (Nat → Int32) × (Nat → Int32) × (Nat → Int32) × (Nat → Int32) × Int32 × Int32 × (Nat → Int32) × (Nat → Int32) × (Nat → Int32) × (Nat → Int32) × (Nat → Int32) × (Nat → Int32) × (Nat → Int32) × (Nat → Int32) × Int32 × Int32 × Int32 × Int32 × (Nat → Int32) × (Nat → Int32) × (Nat → Int32)) => (((flt Ftx le.toInt).1 ≠ -9 ∧ r.toInt = -3 ∧ u.2.2.2.2.2.2.2.2.2.2.2.2.2.1.toInt = lpe.toInt) ∨ ((flt Ftx le.toInt).1 = -9 ∧ r.toInt = 10 * (flt Ftx le.toInt).2.1 + (flt Ftx le.toInt).2.2 ∧ u.2.2.2.2.2.2.2.2.2.2.2.2.2.1.toInt = (flt Ftx le.toInt).2.1)) ∧ (0 ≤ u.2.2.2.2.2.2.2.2.2.2.2.2.2.1.toInt ∧ u.2.2.2.2.2.2.2.2.2.2.2.2.2.1.toInt ≤ 5) ∧ (0 ≤ u.2.2.2.2.2.2.2.2.2.2.2.2.2.2.1.toInt ∧ u.2.2.2.2.2.2.2.2.2.2.2.2.2.2.1.toInt ≤ 6) ∧ (0 ≤ u.2.2.2.2.2.2.2.2.2.2.2.2.2.2.2.2.2.2.2.2.2.2.2.1.toInt ∧ u.2.2.2.2.2.2.2.2.2.2.2.2.2.2.2.2.2.2.2.2.2.2.2.1.toInt ≤ 10) ∧ (0 ≤ u.2.2.2.2.2.2.2.2.2.2.2.2.2.2.2.2.2.2.2.2.2.2.2.2.1.toInt ∧ u.2.2.2.2.2.2.2.2.2.2.2.2.2.2.2.2.2.2.2.2.2.2.2.2.1.toInt ≤ 6) ∧ (0 ≤ u.1.toInt ∧ u.1.toInt ≤ 13) ∧ (0 ≤ u.2.1.toInt ∧ u.2.1.toInt ≤ 14)) (fun u => [(h0, .inr (3, [.ref tx, .int le, .ref td, .ref dr, .ref nw, .ref ac, .int u.1, .int u.2.1, .ref kp, .int u.2.2.1, .ref sp, .ref ss, .ref sy, .int sc, .long sd, .ref tr, .ref ia])), (tx, .inl (cI, 64, .inl Ftx)), (dr, .inr (0, [.int u.2.2.2.1, .int u.2.2.2.2.1, .ref dho, .ref dli, .ref dki, .ref dfd, .ref dfr, .ref dto, .ref dse, .ref dhl])), (dho, .inl (cI, 5, .inl u.2.2.2.2.2.1)), (dli, .inl (cI, 5, .inl u.2.2.2.2.2.2.1)), (dki, .inl (cI, 5, .inl u.2.2.2.2.2.2.2.1)), (dfd, .inl (cI, 7, .inl u.2.2.2.2.2.2.2.2.1)), (dfr, .inl (cI, 7, .inl u.2.2.2.2.2.2.2.2.2.1)), (dto, .inl (cI, 7, .inl u.2.2.2.2.2.2.2.2.2.2.1)), (dse, .inl (cI, 7, .inl u.2.2.2.2.2.2.2.2.2.2.2.1)), (dhl, .inl (cI, 7, .inl u.2.2.2.2.2.2.2.2.2.2.2.2.1)), (td, .inr (0, [.int u.2.2.2.2.2.2.2.2.2.2.2.2.2.1, .int u.2.2.2.2.2.2.2.2.2.2.2.2.2.2.1, .ref lho, .ref lli, .ref lki, .ref lfd, .ref lfr, .ref lto, .ref lse, .ref lhl])), (lho, .inl (cI, 5, .inl u.2.2.2.2.2.2.2.2.2.2.2.2.2.2.2.1)), (lli, .inl (cI, 5, .inl u.2.2.2.2.2.2.2.2.2.2.2.2.2.2.2.2.1)), (lki, .inl (cI, 5, .inl u.2.2.2.2.2.2.2.2.2.2.2.2.2.2.2.2.2.1)), (lfd, .inl (cI, 7, .inl u.2.2.2.2.2.2.2.2.2.2.2.2.2.2.2.2.2.2.1)), (lfr, .inl (cI, 7, .inl u.2.2.2.2.2.2.2.2.2.2.2.2.2.2.2.2.2.2.2.1)), (lto, .inl (cI, 7, .inl u.2.2.2.2.2.2.2.2.2.2.2.2.2.2.2.2.2.2.2.2.1)), (lse, .inl (cI, 7, .inl u.2.2.2.2.2.2.2.2.2.2.2.2.2.2.2.2.2.2.2.2.2.1)), (lhl, .inl (cI, 7, .inl u.2.2.2.2.2.2.2.2.2.2.2.2.2.2.2.2.2.2.2.2.2.2.1)), (nw, .inr (1, [.ref td, .int u.2.2.2.2.2.2.2.2.2.2.2.2.2.2.2.2.2.2.2.2.2.2.2.1, .int u.2.2.2.2.2.2.2.2.2.2.2.2.2.2.2.2.2.2.2.2.2.2.2.2.1, .int u.2.2.2.2.2.2.2.2.2.2.2.2.2.2.2.2.2.2.2.2.2.2.2.2.2.1, .int u.2.2.2.2.2.2.2.2.2.2.2.2.2.2.2.2.2.2.2.2.2.2.2.2.2.2.1, .ref mat, .ref mfd, .ref mhd])), (mat, .inl (cI, 5, .inl u.2.2.2.2.2.2.2.2.2.2.2.2.2.2.2.2.2.2.2.2.2.2.2.2.2.2.2.1)), (mfd, .inl (cI, 7, .inl u.2.2.2.2.2.2.2.2.2.2.2.2.2.2.2.2.2.2.2.2.2.2.2.2.2.2.2.2.1)), (mhd, .inl (cI, 7, .inl u.2.2.2.2.2.2.2.2.2.2.2.2.2.2.2.2.2.2.2.2.2.2.2.2.2.2.2.2.2))]) 0 0 := by
  refine begins (l := l) (y := yX3_line) (ws := wsX3_line) (av := [.ref h0]) (Qc := fun A => va_Qi (fun (r : Int32) (u : Int32 × Int32 × Int32 × Int32 × Int32 × (Nat → Int32) × (Nat → Int32) × (Nat → Int32) × (Nat → Int32) × (Nat → Int32) × (Nat → Int32) × (Nat → Int32) × (Nat → Int32) × Int32 × Int32 × (Nat → Int32) × (Nat → Int32) × (Nat → Int32) × (Nat → Int32) × (Nat → Int32) × (Nat → Int32) × (Nat → Int32) × (Nat → Int32) × Int32 × Int32 × Int32 × Int32 × (Nat → Int32) × (Nat → Int32) × (Nat → Int32)) => (((flt Ftx le.toInt).1 ≠ -9 ∧ r.toInt = -3 ∧ u.2.2.2.2.2.2.2.2.2.2.2.2.2.1.toInt = lpe.toInt) ∨ ((flt Ftx le.toInt).1 = -9 ∧ r.toInt = 10 * (flt Ftx le.toInt).2.1 + (flt Ftx le.toInt).2.2 ∧ u.2.2.2.2.2.2.2.2.2.2.2.2.2.1.toInt = (flt Ftx le.toInt).2.1)) ∧ (0 ≤ u.2.2.2.2.2.2.2.2.2.2.2.2.2.1.toInt ∧ u.2.2.2.2.2.2.2.2.2.2.2.2.2.1.toInt ≤ 5) ∧ (0 ≤ u.2.2.2.2.2.2.2.2.2.2.2.2.2.2.1.toInt ∧ u.2.2.2.2.2.2.2.2.2.2.2.2.2.2.1.toInt ≤ 6) ∧ (0 ≤ u.2.2.2.2.2.2.2.2.2.2.2.2.2.2.2.2.2.2.2.2.2.2.2.1.toInt ∧ u.2.2.2.2.2.2.2.2.2.2.2.2.2.2.2.2.2.2.2.2.2.2.2.1.toInt ≤ 10) ∧ (0 ≤ u.2.2.2.2.2.2.2.2.2.2.2.2.2.2.2.2.2.2.2.2.2.2.2.2.1.toInt ∧ u.2.2.2.2.2.2.2.2.2.2.2.2.2.2.2.2.2.2.2.2.2.2.2.2.1.toInt ≤ 6) ∧ (0 ≤ u.1.toInt ∧ u.1.toInt ≤ 13) ∧ (0 ≤ u.2.1.toInt ∧ u.2.1.toInt ≤ 14)) (fun u => Wd D cI cZ cM A ((fun u => [(h0, .inr (3, [.ref tx, .int le, .ref td, .ref dr, .ref nw, .ref ac, .int u.1, .int u.2.1, .ref kp, .int u.2.2.1, .ref sp, .ref ss, .ref sy, .int sc, .long sd, .ref tr, .ref ia])), (tx, .inl (cI, 64, .inl Ftx)), (dr, .inr (0, [.int u.2.2.2.1, .int u.2.2.2.2.1, .ref dho, .ref dli, .ref dki, .ref dfd, .ref dfr, .ref dto, .ref dse, .ref dhl])), (dho, .inl (cI, 5, .inl u.2.2.2.2.2.1)), (dli, .inl (cI, 5, .inl u.2.2.2.2.2.2.1)), (dki, .inl (cI, 5, .inl u.2.2.2.2.2.2.2.1)), (dfd, .inl (cI, 7, .inl u.2.2.2.2.2.2.2.2.1)), (dfr, .inl (cI, 7, .inl u.2.2.2.2.2.2.2.2.2.1)), (dto, .inl (cI, 7, .inl u.2.2.2.2.2.2.2.2.2.2.1)), (dse, .inl (cI, 7, .inl u.2.2.2.2.2.2.2.2.2.2.2.1)), (dhl, .inl (cI, 7, .inl u.2.2.2.2.2.2.2.2.2.2.2.2.1)), (td, .inr (0, [.int u.2.2.2.2.2.2.2.2.2.2.2.2.2.1, .int u.2.2.2.2.2.2.2.2.2.2.2.2.2.2.1, .ref lho, .ref lli, .ref lki, .ref lfd, .ref lfr, .ref lto, .ref lse, .ref lhl])), (lho, .inl (cI, 5, .inl u.2.2.2.2.2.2.2.2.2.2.2.2.2.2.2.1)), (lli, .inl (cI, 5, .inl u.2.2.2.2.2.2.2.2.2.2.2.2.2.2.2.2.1)), (lki, .inl (cI, 5, .inl u.2.2.2.2.2.2.2.2.2.2.2.2.2.2.2.2.2.1)), (lfd, .inl (cI, 7, .inl u.2.2.2.2.2.2.2.2.2.2.2.2.2.2.2.2.2.2.1)), (lfr, .inl (cI, 7, .inl u.2.2.2.2.2.2.2.2.2.2.2.2.2.2.2.2.2.2.2.1)), (lto, .inl (cI, 7, .inl u.2.2.2.2.2.2.2.2.2.2.2.2.2.2.2.2.2.2.2.2.1)), (lse, .inl (cI, 7, .inl u.2.2.2.2.2.2.2.2.2.2.2.2.2.2.2.2.2.2.2.2.2.1)), (lhl, .inl (cI, 7, .inl u.2.2.2.2.2.2.2.2.2.2.2.2.2.2.2.2.2.2.2.2.2.2.1)), (nw, .inr (1, [.ref td, .int u.2.2.2.2.2.2.2.2.2.2.2.2.2.2.2.2.2.2.2.2.2.2.2.1, .int u.2.2.2.2.2.2.2.2.2.2.2.2.2.2.2.2.2.2.2.2.2.2.2.2.1, .int u.2.2.2.2.2.2.2.2.2.2.2.2.2.2.2.2.2.2.2.2.2.2.2.2.2.1, .int u.2.2.2.2.2.2.2.2.2.2.2.2.2.2.2.2.2.2.2.2.2.2.2.2.2.2.1, .ref mat, .ref mfd, .ref mhd])), (mat, .inl (cI, 5, .inl u.2.2.2.2.2.2.2.2.2.2.2.2.2.2.2.2.2.2.2.2.2.2.2.2.2.2.2.1)), (mfd, .inl (cI, 7, .inl u.2.2.2.2.2.2.2.2.2.2.2.2.2.2.2.2.2.2.2.2.2.2.2.2.2.2.2.2.1)), (mhd, .inl (cI, 7, .inl u.2.2.2.2.2.2.2.2.2.2.2.2.2.2.2.2.2.2.2.2.2.2.2.2.2.2.2.2.2))]) u)) A) cX3_line 1 (some .int) (by decide) rfl (Nat.le_of_ble_eq_true rfl) ?_
  intro p e s m args below meth c R Q A ls hBd hR hQ hA hS hK hP hD hl
  obtain ⟨hx, hb, hr, hts, hown, hlocks, hin, hml⟩ := hBd
  have hl : lv_has ls 1 [(0, .ref h0)] := hl
  have iX3 : ∀ w ∈ wsX30, w ∈ wsX3_line := fun _ h => List.mem_cons_of_mem _ (List.mem_append_left _ (List.mem_append_left _ (List.mem_append_right _ h)))
  have iX0 : ∀ w ∈ wsX00, w ∈ wsX3_line := fun _ h => List.mem_cons_of_mem _ (List.mem_append_left _ (List.mem_append_right _ h))
  have iX1 : ∀ w ∈ wsX10, w ∈ wsX3_line := fun _ h => List.mem_cons_of_mem _ (List.mem_append_right _ h)
  obtain ⟨h_mda, h_mdb⟩ := h_md
  obtain ⟨h_mta, h_mtb⟩ := h_mt
  obtain ⟨h_lpea, h_lpeb⟩ := h_lpe
  obtain ⟨h_ltka, h_ltkb⟩ := h_ltk
  obtain ⟨h_lea, h_leb⟩ := h_le
  obtain ⟨h_faa, h_fab⟩ := h_fa
  obtain ⟨h_ana, h_anb⟩ := h_an
  refine lv_aload_n hx hb dX3_line_0 rfl (lv_at hl 0 rfl) ?_
  refine va_get (D := D) (ci := 3) (v := .ref dr) (C := RX3) (T := TX3) (N := 17) hx hb hts iX3 hown hK hP 0 rfl rfl 3 (by decide) (hts (.fieldLink RX3 24 "PunchedTicket" "draft" "LPunchedTicket$Line;") (List.mem_of_getElem? (i := 1) rfl)) (fun _ h9 => h9) rfl dX3_line_1 ?_
  refine lv_aload_n hx hb dX3_line_4 rfl (lv_at hl 0 rfl) ?_
  refine va_get (D := D) (ci := 3) (v := .ref tx) (C := RX3) (T := TX3) (N := 17) hx hb hts iX3 hown hK hP 0 rfl rfl 0 (by decide) (hts (.fieldLink RX3 9 "PunchedTicket" "text" "[I") (List.mem_of_getElem? (i := 2) rfl)) (fun _ h9 => h9) rfl dX3_line_5 ?_
  refine lv_aload_n hx hb dX3_line_8 rfl (lv_at hl 0 rfl) ?_
  refine va_get (D := D) (ci := 3) (v := .int le) (C := RX3) (T := TX3) (N := 17) hx hb hts iX3 hown hK hP 0 rfl rfl 1 (by decide) (hts (.fieldLink RX3 13 "PunchedTicket" "letters" "I") (List.mem_of_getElem? (i := 3) rfl)) (fun _ h9 => h9) rfl dX3_line_9 ?_
  refine cV_i (As := [.ref tx, .int le]) (rest := []) ⟨hx, hb, hml, hown, hts⟩ (t_X0_read l D cI cZ cM dr tx le dpe dtk dho dli dki dfd dfr dto dse dhl dFho dFli dFki dFfd dFfr dFto dFse dFhl Ftx _ hTx (show 0 ≤ le.toInt ∧ le.toInt ≤ 64 by omega)) (cwV 2 hts gX3_line_X0_read rfl rfl rfl (by decide +kernel) ⟨by rw [hR]; decide, by rw [hR]; decide⟩) hK hP hD hS hA [2, 3, 4, 5, 6, 7, 8, 9, 10, 1] [0, 11, 12, 13, 14, 15, 16, 17, 18, 19, 20, 21, 22, 23] rfl rfl (by decide) (by decide) (by decide +kernel) rfl 2 rfl hl.1 rfl rfl (Nat.le_of_ble_eq_true rfl) dX3_line_12 ⟨by rw [hR]; decide, by rw [hR]; decide⟩ (fun r_11 u_12 H locs hw hP hD hS => ?_)
  obtain ⟨pe1_1, tk1_2, Gho_3, Gli_4, Gki_5, Gfd_6, Gfr_7, Gto_8, Gse_9, Ghl_10⟩ := u_12
  have hP : va_P D vwCl [(h0, .inr (3, [.ref tx, .int le, .ref td, .ref dr, .ref nw, .ref ac, .int fa, .int an, .ref kp, .int ks, .ref sp, .ref ss, .ref sy, .int sc, .long sd, .ref tr, .ref ia])), (tx, .inl (cI, 64, .inl Ftx)), (dr, .inr (0, [.int pe1_1, .int tk1_2, .ref dho, .ref dli, .ref dki, .ref dfd, .ref dfr, .ref dto, .ref dse, .ref dhl])), (dho, .inl (cI, 5, .inl Gho_3)), (dli, .inl (cI, 5, .inl Gli_4)), (dki, .inl (cI, 5, .inl Gki_5)), (dfd, .inl (cI, 7, .inl Gfd_6)), (dfr, .inl (cI, 7, .inl Gfr_7)), (dto, .inl (cI, 7, .inl Gto_8)), (dse, .inl (cI, 7, .inl Gse_9)), (dhl, .inl (cI, 7, .inl Ghl_10)), (td, .inr (0, [.int lpe, .int ltk, .ref lho, .ref lli, .ref lki, .ref lfd, .ref lfr, .ref lto, .ref lse, .ref lhl])), (lho, .inl (cI, 5, .inl lFho)), (lli, .inl (cI, 5, .inl lFli)), (lki, .inl (cI, 5, .inl lFki)), (lfd, .inl (cI, 7, .inl lFfd)), (lfr, .inl (cI, 7, .inl lFfr)), (lto, .inl (cI, 7, .inl lFto)), (lse, .inl (cI, 7, .inl lFse)), (lhl, .inl (cI, 7, .inl lFhl)), (nw, .inr (1, [.ref td, .int md, .int mt, .int mr, .int mg, .ref mat, .ref mfd, .ref mhd])), (mat, .inl (cI, 5, .inl mFat)), (mfd, .inl (cI, 7, .inl mFfd)), (mhd, .inl (cI, 7, .inl mFhd))] H := hP.sub [0, 23, 14, 15, 16, 17, 18, 19, 20, 21, 22, 1, 2, 3, 4, 5, 6, 7, 8, 9, 10, 11, 12, 13] rfl
  have hD : va_D A [(h0, .inr (3, [.ref tx, .int le, .ref td, .ref dr, .ref nw, .ref ac, .int fa, .int an, .ref kp, .int ks, .ref sp, .ref ss, .ref sy, .int sc, .long sd, .ref tr, .ref ia])), (tx, .inl (cI, 64, .inl Ftx)), (dr, .inr (0, [.int pe1_1, .int tk1_2, .ref dho, .ref dli, .ref dki, .ref dfd, .ref dfr, .ref dto, .ref dse, .ref dhl])), (dho, .inl (cI, 5, .inl Gho_3)), (dli, .inl (cI, 5, .inl Gli_4)), (dki, .inl (cI, 5, .inl Gki_5)), (dfd, .inl (cI, 7, .inl Gfd_6)), (dfr, .inl (cI, 7, .inl Gfr_7)), (dto, .inl (cI, 7, .inl Gto_8)), (dse, .inl (cI, 7, .inl Gse_9)), (dhl, .inl (cI, 7, .inl Ghl_10)), (td, .inr (0, [.int lpe, .int ltk, .ref lho, .ref lli, .ref lki, .ref lfd, .ref lfr, .ref lto, .ref lse, .ref lhl])), (lho, .inl (cI, 5, .inl lFho)), (lli, .inl (cI, 5, .inl lFli)), (lki, .inl (cI, 5, .inl lFki)), (lfd, .inl (cI, 7, .inl lFfd)), (lfr, .inl (cI, 7, .inl lFfr)), (lto, .inl (cI, 7, .inl lFto)), (lse, .inl (cI, 7, .inl lFse)), (lhl, .inl (cI, 7, .inl lFhl)), (nw, .inr (1, [.ref td, .int md, .int mt, .int mr, .int mg, .ref mat, .ref mfd, .ref mhd])), (mat, .inl (cI, 5, .inl mFat)), (mfd, .inl (cI, 7, .inl mFfd)), (mhd, .inl (cI, 7, .inl mFhd))] := hD.sub [0, 23, 14, 15, 16, 17, 18, 19, 20, 21, 22, 1, 2, 3, 4, 5, 6, 7, 8, 9, 10, 11, 12, 13] (by decide +kernel) rfl
  refine W.widen (k := 0) (n := 0) (Nat.le_refl _) (Nat.le_refl _) ?_
  have hw : r_11.toInt = (flt Ftx le.toInt).1 ∧ (r_11.toInt = -9 → pe1_1.toInt = (flt Ftx le.toInt).2.1 ∧ tk1_2.toInt = (flt Ftx le.toInt).2.2) ∧ 0 ≤ pe1_1.toInt ∧ pe1_1.toInt ≤ 5 ∧ 0 ≤ tk1_2.toInt ∧ tk1_2.toInt ≤ 6 := hw
  have hw_13 := hw
  refine lv_bipush (v := (-9)) hx hb dX3_line_15 (by decide) ?_
  refine lv_icmp_eq (tgt := 23) hx hb dX3_line_17 (by decide) (fun c_14 => ?_) (fun c_14 => ?_)
  · have tc_14 := b_eq rfl (show ((-9) : Int32).toInt = -9 by decide) c_14
    refine lv_aload_n hx hb dX3_line_23 rfl (lv_at hl 0 rfl) ?_
    refine va_get (D := D) (ci := 3) (v := .ref td) (C := RX3) (T := TX3) (N := 17) hx hb hts iX3 hown hK hP 0 rfl rfl 2 (by decide) (hts (.fieldLink RX3 20 "PunchedTicket" "told" "LPunchedTicket$Line;") (List.mem_of_getElem? (i := 4) rfl)) (fun _ h9 => h9) rfl dX3_line_24 ?_
    refine lv_aload_n hx hb dX3_line_27 rfl (lv_at hl 0 rfl) ?_
    refine va_get (D := D) (ci := 3) (v := .ref dr) (C := RX3) (T := TX3) (N := 17) hx hb hts iX3 hown hK hP 0 rfl rfl 3 (by decide) (hts (.fieldLink RX3 24 "PunchedTicket" "draft" "LPunchedTicket$Line;") (List.mem_of_getElem? (i := 1) rfl)) (fun _ h9 => h9) rfl dX3_line_28 ?_
    refine cV_v (As := [.ref dr]) (rest := []) ⟨hx, hb, hml, hown, hts⟩ (c_X0_copy l D cI cZ cM td dr lpe ltk lho lli lki lfd lfr lto lse lhl pe1_1 tk1_2 dho dli dki dfd dfr dto dse dhl lFho lFli lFki lFfd lFfr lFto lFse lFhl Gho_3 Gli_4 Gki_5 Gfd_6 Gfr_7 Gto_8 Gse_9 Ghl_10 _ ) (cwV 1 hts gX3_line_X0_copy rfl rfl rfl (by decide +kernel) ⟨by rw [hR]; decide, by rw [hR]; decide⟩) hK hP hD hS hA [11, 2, 12, 13, 14, 15, 16, 17, 18, 19, 3, 4, 5, 6, 7, 8, 9, 10] [0, 1, 20, 21, 22, 23] rfl rfl (by decide +kernel) (by decide) (by decide +kernel) rfl 11 rfl hl.1 rfl rfl (Nat.le_of_ble_eq_true rfl) dX3_line_31 ⟨by rw [hR]; decide, by rw [hR]; decide⟩ (fun u_24 H locs hw hP hD hS => ?_)
    obtain ⟨Gho_15, Gli_16, Gki_17, Gfd_18, Gfr_19, Gto_20, Gse_21, Ghl_22⟩ := u_24
    have hP : va_P D vwCl [(h0, .inr (3, [.ref tx, .int le, .ref td, .ref dr, .ref nw, .ref ac, .int fa, .int an, .ref kp, .int ks, .ref sp, .ref ss, .ref sy, .int sc, .long sd, .ref tr, .ref ia])), (tx, .inl (cI, 64, .inl Ftx)), (dr, .inr (0, [.int pe1_1, .int tk1_2, .ref dho, .ref dli, .ref dki, .ref dfd, .ref dfr, .ref dto, .ref dse, .ref dhl])), (dho, .inl (cI, 5, .inl Gho_3)), (dli, .inl (cI, 5, .inl Gli_4)), (dki, .inl (cI, 5, .inl Gki_5)), (dfd, .inl (cI, 7, .inl Gfd_6)), (dfr, .inl (cI, 7, .inl Gfr_7)), (dto, .inl (cI, 7, .inl Gto_8)), (dse, .inl (cI, 7, .inl Gse_9)), (dhl, .inl (cI, 7, .inl Ghl_10)), (td, .inr (0, [.int pe1_1, .int tk1_2, .ref lho, .ref lli, .ref lki, .ref lfd, .ref lfr, .ref lto, .ref lse, .ref lhl])), (lho, .inl (cI, 5, .inl Gho_15)), (lli, .inl (cI, 5, .inl Gli_16)), (lki, .inl (cI, 5, .inl Gki_17)), (lfd, .inl (cI, 7, .inl Gfd_18)), (lfr, .inl (cI, 7, .inl Gfr_19)), (lto, .inl (cI, 7, .inl Gto_20)), (lse, .inl (cI, 7, .inl Gse_21)), (lhl, .inl (cI, 7, .inl Ghl_22)), (nw, .inr (1, [.ref td, .int md, .int mt, .int mr, .int mg, .ref mat, .ref mfd, .ref mhd])), (mat, .inl (cI, 5, .inl mFat)), (mfd, .inl (cI, 7, .inl mFfd)), (mhd, .inl (cI, 7, .inl mFhd))] H := hP.sub [0, 1, 7, 16, 17, 18, 19, 20, 21, 22, 23, 6, 8, 9, 10, 11, 12, 13, 14, 15, 2, 3, 4, 5] rfl
    have hD : va_D A [(h0, .inr (3, [.ref tx, .int le, .ref td, .ref dr, .ref nw, .ref ac, .int fa, .int an, .ref kp, .int ks, .ref sp, .ref ss, .ref sy, .int sc, .long sd, .ref tr, .ref ia])), (tx, .inl (cI, 64, .inl Ftx)), (dr, .inr (0, [.int pe1_1, .int tk1_2, .ref dho, .ref dli, .ref dki, .ref dfd, .ref dfr, .ref dto, .ref dse, .ref dhl])), (dho, .inl (cI, 5, .inl Gho_3)), (dli, .inl (cI, 5, .inl Gli_4)), (dki, .inl (cI, 5, .inl Gki_5)), (dfd, .inl (cI, 7, .inl Gfd_6)), (dfr, .inl (cI, 7, .inl Gfr_7)), (dto, .inl (cI, 7, .inl Gto_8)), (dse, .inl (cI, 7, .inl Gse_9)), (dhl, .inl (cI, 7, .inl Ghl_10)), (td, .inr (0, [.int pe1_1, .int tk1_2, .ref lho, .ref lli, .ref lki, .ref lfd, .ref lfr, .ref lto, .ref lse, .ref lhl])), (lho, .inl (cI, 5, .inl Gho_15)), (lli, .inl (cI, 5, .inl Gli_16)), (lki, .inl (cI, 5, .inl Gki_17)), (lfd, .inl (cI, 7, .inl Gfd_18)), (lfr, .inl (cI, 7, .inl Gfr_19)), (lto, .inl (cI, 7, .inl Gto_20)), (lse, .inl (cI, 7, .inl Gse_21)), (lhl, .inl (cI, 7, .inl Ghl_22)), (nw, .inr (1, [.ref td, .int md, .int mt, .int mr, .int mg, .ref mat, .ref mfd, .ref mhd])), (mat, .inl (cI, 5, .inl mFat)), (mfd, .inl (cI, 7, .inl mFfd)), (mhd, .inl (cI, 7, .inl mFhd))] := hD.sub [0, 1, 7, 16, 17, 18, 19, 20, 21, 22, 23, 6, 8, 9, 10, 11, 12, 13, 14, 15, 2, 3, 4, 5] (by decide +kernel) rfl
    refine W.widen (k := 0) (n := 0) (Nat.le_refl _) (Nat.le_refl _) ?_
    refine lv_aload_n hx hb dX3_line_34 rfl (lv_at hl 0 rfl) ?_
    refine va_get (D := D) (ci := 3) (v := .ref nw) (C := RX3) (T := TX3) (N := 17) hx hb hts iX3 hown hK hP 0 rfl rfl 4 (by decide) (hts (.fieldLink RX3 32 "PunchedTicket" "now" "LPunchedTicket$Moment;") (List.mem_of_getElem? (i := 5) rfl)) (fun _ h9 => h9) rfl dX3_line_35 ?_
    refine cV_v (As := []) (rest := []) ⟨hx, hb, hml, hown, hts⟩ (c_X1_begin l D cI cZ cM nw td md mt mr mg mat mfd mhd pe1_1 tk1_2 lho lli lki lfd lfr lto lse lhl Gho_15 Gfd_18 Ghl_22 mFat mFfd mFhd _ ) (cwV 0 hts gX3_line_X1_begin rfl rfl rfl (by decide +kernel) ⟨by rw [hR]; decide, by rw [hR]; decide⟩) hK hP hD hS hA [20, 11, 12, 15, 19, 21, 22, 23] [0, 1, 2, 3, 4, 5, 6, 7, 8, 9, 10, 13, 14, 16, 17, 18] rfl rfl (by decide) (by decide +kernel) (by decide +kernel) rfl 20 rfl hl.1 rfl rfl (Nat.le_of_ble_eq_true rfl) dX3_line_38 ⟨by rw [hR]; decide, by rw [hR]; decide⟩ (fun u_29 H locs hw hP hD hS => ?_)
    obtain ⟨Gat_25, Gfd_26, Ghd_27⟩ := u_29
    have hP : va_P D vwCl [(h0, .inr (3, [.ref tx, .int le, .ref td, .ref dr, .ref nw, .ref ac, .int fa, .int an, .ref kp, .int ks, .ref sp, .ref ss, .ref sy, .int sc, .long sd, .ref tr, .ref ia])), (tx, .inl (cI, 64, .inl Ftx)), (dr, .inr (0, [.int pe1_1, .int tk1_2, .ref dho, .ref dli, .ref dki, .ref dfd, .ref dfr, .ref dto, .ref dse, .ref dhl])), (dho, .inl (cI, 5, .inl Gho_3)), (dli, .inl (cI, 5, .inl Gli_4)), (dki, .inl (cI, 5, .inl Gki_5)), (dfd, .inl (cI, 7, .inl Gfd_6)), (dfr, .inl (cI, 7, .inl Gfr_7)), (dto, .inl (cI, 7, .inl Gto_8)), (dse, .inl (cI, 7, .inl Gse_9)), (dhl, .inl (cI, 7, .inl Ghl_10)), (td, .inr (0, [.int pe1_1, .int tk1_2, .ref lho, .ref lli, .ref lki, .ref lfd, .ref lfr, .ref lto, .ref lse, .ref lhl])), (lho, .inl (cI, 5, .inl Gho_15)), (lli, .inl (cI, 5, .inl Gli_16)), (lki, .inl (cI, 5, .inl Gki_17)), (lfd, .inl (cI, 7, .inl Gfd_18)), (lfr, .inl (cI, 7, .inl Gfr_19)), (lto, .inl (cI, 7, .inl Gto_20)), (lse, .inl (cI, 7, .inl Gse_21)), (lhl, .inl (cI, 7, .inl Ghl_22)), (nw, .inr (1, [.ref td, .int 0, .int tk1_2, .int 0, .int 0, .ref mat, .ref mfd, .ref mhd])), (mat, .inl (cI, 5, .inl Gat_25)), (mfd, .inl (cI, 7, .inl Gfd_26)), (mhd, .inl (cI, 7, .inl Ghd_27))] H := hP.sub [0, 1, 2, 3, 4, 5, 6, 7, 8, 9, 10, 17, 18, 11, 12, 19, 13, 14, 15, 20, 16, 21, 22, 23] rfl
    have hD : va_D A [(h0, .inr (3, [.ref tx, .int le, .ref td, .ref dr, .ref nw, .ref ac, .int fa, .int an, .ref kp, .int ks, .ref sp, .ref ss, .ref sy, .int sc, .long sd, .ref tr, .ref ia])), (tx, .inl (cI, 64, .inl Ftx)), (dr, .inr (0, [.int pe1_1, .int tk1_2, .ref dho, .ref dli, .ref dki, .ref dfd, .ref dfr, .ref dto, .ref dse, .ref dhl])), (dho, .inl (cI, 5, .inl Gho_3)), (dli, .inl (cI, 5, .inl Gli_4)), (dki, .inl (cI, 5, .inl Gki_5)), (dfd, .inl (cI, 7, .inl Gfd_6)), (dfr, .inl (cI, 7, .inl Gfr_7)), (dto, .inl (cI, 7, .inl Gto_8)), (dse, .inl (cI, 7, .inl Gse_9)), (dhl, .inl (cI, 7, .inl Ghl_10)), (td, .inr (0, [.int pe1_1, .int tk1_2, .ref lho, .ref lli, .ref lki, .ref lfd, .ref lfr, .ref lto, .ref lse, .ref lhl])), (lho, .inl (cI, 5, .inl Gho_15)), (lli, .inl (cI, 5, .inl Gli_16)), (lki, .inl (cI, 5, .inl Gki_17)), (lfd, .inl (cI, 7, .inl Gfd_18)), (lfr, .inl (cI, 7, .inl Gfr_19)), (lto, .inl (cI, 7, .inl Gto_20)), (lse, .inl (cI, 7, .inl Gse_21)), (lhl, .inl (cI, 7, .inl Ghl_22)), (nw, .inr (1, [.ref td, .int 0, .int tk1_2, .int 0, .int 0, .ref mat, .ref mfd, .ref mhd])), (mat, .inl (cI, 5, .inl Gat_25)), (mfd, .inl (cI, 7, .inl Gfd_26)), (mhd, .inl (cI, 7, .inl Ghd_27))] := hD.sub [0, 1, 2, 3, 4, 5, 6, 7, 8, 9, 10, 17, 18, 11, 12, 19, 13, 14, 15, 20, 16, 21, 22, 23] (by decide +kernel) rfl
    refine W.widen (k := 0) (n := 0) (Nat.le_refl _) (Nat.le_refl _) ?_
    refine lv_aload_n hx hb dX3_line_41 rfl (lv_at hl 0 rfl) ?_
    refine cV_v (As := []) (rest := []) ⟨hx, hb, hml, hown, hts⟩ (c_X3_forgetActs l D cI cZ cM h0 tx le td dr nw ac fa an kp ks sp ss sy sc sd tr ia _ ) (cwV 0 hts gX3_line_X3_forgetActs rfl rfl rfl (by decide +kernel) ⟨by rw [hR]; decide, by rw [hR]; decide⟩) hK hP hD hS hA [0] [1, 2, 3, 4, 5, 6, 7, 8, 9, 10, 11, 12, 13, 14, 15, 16, 17, 18, 19, 20, 21, 22, 23] rfl rfl (by decide) (by decide +kernel) (by decide +kernel) rfl 0 rfl hl.1 rfl rfl (Nat.le_of_ble_eq_true rfl) dX3_line_42 ⟨by rw [hR]; decide, by rw [hR]; decide⟩ (fun u_31 H locs hw hP hD hS => ?_)
    have hP : va_P D vwCl [(h0, .inr (3, [.ref tx, .int le, .ref td, .ref dr, .ref nw, .ref ac, .int 0, .int 0, .ref kp, .int ks, .ref sp, .ref ss, .ref sy, .int sc, .long sd, .ref tr, .ref ia])), (tx, .inl (cI, 64, .inl Ftx)), (dr, .inr (0, [.int pe1_1, .int tk1_2, .ref dho, .ref dli, .ref dki, .ref dfd, .ref dfr, .ref dto, .ref dse, .ref dhl])), (dho, .inl (cI, 5, .inl Gho_3)), (dli, .inl (cI, 5, .inl Gli_4)), (dki, .inl (cI, 5, .inl Gki_5)), (dfd, .inl (cI, 7, .inl Gfd_6)), (dfr, .inl (cI, 7, .inl Gfr_7)), (dto, .inl (cI, 7, .inl Gto_8)), (dse, .inl (cI, 7, .inl Gse_9)), (dhl, .inl (cI, 7, .inl Ghl_10)), (td, .inr (0, [.int pe1_1, .int tk1_2, .ref lho, .ref lli, .ref lki, .ref lfd, .ref lfr, .ref lto, .ref lse, .ref lhl])), (lho, .inl (cI, 5, .inl Gho_15)), (lli, .inl (cI, 5, .inl Gli_16)), (lki, .inl (cI, 5, .inl Gki_17)), (lfd, .inl (cI, 7, .inl Gfd_18)), (lfr, .inl (cI, 7, .inl Gfr_19)), (lto, .inl (cI, 7, .inl Gto_20)), (lse, .inl (cI, 7, .inl Gse_21)), (lhl, .inl (cI, 7, .inl Ghl_22)), (nw, .inr (1, [.ref td, .int 0, .int tk1_2, .int 0, .int 0, .ref mat, .ref mfd, .ref mhd])), (mat, .inl (cI, 5, .inl Gat_25)), (mfd, .inl (cI, 7, .inl Gfd_26)), (mhd, .inl (cI, 7, .inl Ghd_27))] H := hP.sub [23, 0, 1, 2, 3, 4, 5, 6, 7, 8, 9, 10, 11, 12, 13, 14, 15, 16, 17, 18, 19, 20, 21, 22] rfl
    have hD : va_D A [(h0, .inr (3, [.ref tx, .int le, .ref td, .ref dr, .ref nw, .ref ac, .int 0, .int 0, .ref kp, .int ks, .ref sp, .ref ss, .ref sy, .int sc, .long sd, .ref tr, .ref ia])), (tx, .inl (cI, 64, .inl Ftx)), (dr, .inr (0, [.int pe1_1, .int tk1_2, .ref dho, .ref dli, .ref dki, .ref dfd, .ref dfr, .ref dto, .ref dse, .ref dhl])), (dho, .inl (cI, 5, .inl Gho_3)), (dli, .inl (cI, 5, .inl Gli_4)), (dki, .inl (cI, 5, .inl Gki_5)), (dfd, .inl (cI, 7, .inl Gfd_6)), (dfr, .inl (cI, 7, .inl Gfr_7)), (dto, .inl (cI, 7, .inl Gto_8)), (dse, .inl (cI, 7, .inl Gse_9)), (dhl, .inl (cI, 7, .inl Ghl_10)), (td, .inr (0, [.int pe1_1, .int tk1_2, .ref lho, .ref lli, .ref lki, .ref lfd, .ref lfr, .ref lto, .ref lse, .ref lhl])), (lho, .inl (cI, 5, .inl Gho_15)), (lli, .inl (cI, 5, .inl Gli_16)), (lki, .inl (cI, 5, .inl Gki_17)), (lfd, .inl (cI, 7, .inl Gfd_18)), (lfr, .inl (cI, 7, .inl Gfr_19)), (lto, .inl (cI, 7, .inl Gto_20)), (lse, .inl (cI, 7, .inl Gse_21)), (lhl, .inl (cI, 7, .inl Ghl_22)), (nw, .inr (1, [.ref td, .int 0, .int tk1_2, .int 0, .int 0, .ref mat, .ref mfd, .ref mhd])), (mat, .inl (cI, 5, .inl Gat_25)), (mfd, .inl (cI, 7, .inl Gfd_26)), (mhd, .inl (cI, 7, .inl Ghd_27))] := hD.sub [23, 0, 1, 2, 3, 4, 5, 6, 7, 8, 9, 10, 11, 12, 13, 14, 15, 16, 17, 18, 19, 20, 21, 22] (by decide +kernel) rfl
    refine W.widen (k := 0) (n := 0) (Nat.le_refl _) (Nat.le_refl _) ?_
    refine lv_aload_n hx hb dX3_line_45 rfl (lv_at hl 0 rfl) ?_
    refine lv_iconst (v := 0) hx hb dX3_line_46 (by decide) ?_
    refine va_put (D := D) (ci := 3) (v := .int 0) (ty := .int) (C := RX3) (T := TX3) (N := 17) hx hb hts iX3 tyX3 tyX3_ok nmX3 hown hK hP hD hS 0 rfl rfl 9 (by decide) (hts (.fieldLink RX3 49 "PunchedTicket" "keptSlots" "I") (List.mem_of_getElem? (i := 6) rfl)) (fun _ h9 => h9) rfl (by decide +kernel) rfl rfl (Nat.le_of_ble_eq_true rfl) dX3_line_47 (fun H locs hP hD hS => ?_)
    have hP : va_P D vwCl [(h0, .inr (3, [.ref tx, .int le, .ref td, .ref dr, .ref nw, .ref ac, .int 0, .int 0, .ref kp, .int 0, .ref sp, .ref ss, .ref sy, .int sc, .long sd, .ref tr, .ref ia])), (tx, .inl (cI, 64, .inl Ftx)), (dr, .inr (0, [.int pe1_1, .int tk1_2, .ref dho, .ref dli, .ref dki, .ref dfd, .ref dfr, .ref dto, .ref dse, .ref dhl])), (dho, .inl (cI, 5, .inl Gho_3)), (dli, .inl (cI, 5, .inl Gli_4)), (dki, .inl (cI, 5, .inl Gki_5)), (dfd, .inl (cI, 7, .inl Gfd_6)), (dfr, .inl (cI, 7, .inl Gfr_7)), (dto, .inl (cI, 7, .inl Gto_8)), (dse, .inl (cI, 7, .inl Gse_9)), (dhl, .inl (cI, 7, .inl Ghl_10)), (td, .inr (0, [.int pe1_1, .int tk1_2, .ref lho, .ref lli, .ref lki, .ref lfd, .ref lfr, .ref lto, .ref lse, .ref lhl])), (lho, .inl (cI, 5, .inl Gho_15)), (lli, .inl (cI, 5, .inl Gli_16)), (lki, .inl (cI, 5, .inl Gki_17)), (lfd, .inl (cI, 7, .inl Gfd_18)), (lfr, .inl (cI, 7, .inl Gfr_19)), (lto, .inl (cI, 7, .inl Gto_20)), (lse, .inl (cI, 7, .inl Gse_21)), (lhl, .inl (cI, 7, .inl Ghl_22)), (nw, .inr (1, [.ref td, .int 0, .int tk1_2, .int 0, .int 0, .ref mat, .ref mfd, .ref mhd])), (mat, .inl (cI, 5, .inl Gat_25)), (mfd, .inl (cI, 7, .inl Gfd_26)), (mhd, .inl (cI, 7, .inl Ghd_27))] H := hP
    have hD : va_D A [(h0, .inr (3, [.ref tx, .int le, .ref td, .ref dr, .ref nw, .ref ac, .int 0, .int 0, .ref kp, .int 0, .ref sp, .ref ss, .ref sy, .int sc, .long sd, .ref tr, .ref ia])), (tx, .inl (cI, 64, .inl Ftx)), (dr, .inr (0, [.int pe1_1, .int tk1_2, .ref dho, .ref dli, .ref dki, .ref dfd, .ref dfr, .ref dto, .ref dse, .ref dhl])), (dho, .inl (cI, 5, .inl Gho_3)), (dli, .inl (cI, 5, .inl Gli_4)), (dki, .inl (cI, 5, .inl Gki_5)), (dfd, .inl (cI, 7, .inl Gfd_6)), (dfr, .inl (cI, 7, .inl Gfr_7)), (dto, .inl (cI, 7, .inl Gto_8)), (dse, .inl (cI, 7, .inl Gse_9)), (dhl, .inl (cI, 7, .inl Ghl_10)), (td, .inr (0, [.int pe1_1, .int tk1_2, .ref lho, .ref lli, .ref lki, .ref lfd, .ref lfr, .ref lto, .ref lse, .ref lhl])), (lho, .inl (cI, 5, .inl Gho_15)), (lli, .inl (cI, 5, .inl Gli_16)), (lki, .inl (cI, 5, .inl Gki_17)), (lfd, .inl (cI, 7, .inl Gfd_18)), (lfr, .inl (cI, 7, .inl Gfr_19)), (lto, .inl (cI, 7, .inl Gto_20)), (lse, .inl (cI, 7, .inl Gse_21)), (lhl, .inl (cI, 7, .inl Ghl_22)), (nw, .inr (1, [.ref td, .int 0, .int tk1_2, .int 0, .int 0, .ref mat, .ref mfd, .ref mhd])), (mat, .inl (cI, 5, .inl Gat_25)), (mfd, .inl (cI, 7, .inl Gfd_26)), (mhd, .inl (cI, 7, .inl Ghd_27))] := hD
    refine lv_bipush (v := 10) hx hb dX3_line_50 (by decide) ?_
    refine lv_aload_n hx hb dX3_line_52 rfl (lv_at hl 0 rfl) ?_
    refine va_get (D := D) (ci := 3) (v := .ref td) (C := RX3) (T := TX3) (N := 17) hx hb hts iX3 hown hK hP 0 rfl rfl 2 (by decide) (hts (.fieldLink RX3 20 "PunchedTicket" "told" "LPunchedTicket$Line;") (List.mem_of_getElem? (i := 4) rfl)) (fun _ h9 => h9) rfl dX3_line_53 ?_
    refine va_get (D := D) (ci := 0) (v := .int pe1_1) (C := RX0) (T := TX0) (N := 10) hx hb hts iX0 hown hK hP 11 rfl rfl 0 (by decide) (hts (.fieldLink RX3 91 "PunchedTicket$Line" "people" "I") (List.mem_of_getElem? (i := 7) rfl)) (fun _ h9 => h9) rfl dX3_line_56 ?_
    refine lv_imul hx hb dX3_line_59 ?_
    refine lv_topi (fun v_32 ev_32 => ?_)
    have tv_32 : v_32.toInt = (10 : Int) * pe1_1.toInt := by rw [ev_32]; exact ti_mul (x := 10) (y := pe1_1) (show -2147483648 ≤ (10 : Int) * pe1_1.toInt by omega) (show (10 : Int) * pe1_1.toInt < 2147483648 by omega)
    refine lv_aload_n hx hb dX3_line_60 rfl (lv_at hl 0 rfl) ?_
    refine va_get (D := D) (ci := 3) (v := .ref td) (C := RX3) (T := TX3) (N := 17) hx hb hts iX3 hown hK hP 0 rfl rfl 2 (by decide) (hts (.fieldLink RX3 20 "PunchedTicket" "told" "LPunchedTicket$Line;") (List.mem_of_getElem? (i := 4) rfl)) (fun _ h9 => h9) rfl dX3_line_61 ?_
    refine va_get (D := D) (ci := 0) (v := .int tk1_2) (C := RX0) (T := TX0) (N := 10) hx hb hts iX0 hown hK hP 11 rfl rfl 1 (by decide) (hts (.fieldLink RX3 94 "PunchedTicket$Line" "tickets" "I") (List.mem_of_getElem? (i := 8) rfl)) (fun _ h9 => h9) rfl dX3_line_64 ?_
    refine lv_iadd hx hb dX3_line_67 ?_
    refine lv_topi (fun v_33 ev_33 => ?_)
    have tv_33 : v_33.toInt = v_32.toInt + tk1_2.toInt := by rw [ev_33]; exact ti_add (x := v_32) (y := tk1_2) (show -2147483648 ≤ v_32.toInt + tk1_2.toInt by omega) (show v_32.toInt + tk1_2.toInt < 2147483648 by omega)
    exact ret_i (post := (fun (r : Int32) (u : Int32 × Int32 × Int32 × Int32 × Int32 × (Nat → Int32) × (Nat → Int32) × (Nat → Int32) × (Nat → Int32) × (Nat → Int32) × (Nat → Int32) × (Nat → Int32) × (Nat → Int32) × Int32 × Int32 × (Nat → Int32) × (Nat → Int32) × (Nat → Int32) × (Nat → Int32) × (Nat → Int32) × (Nat → Int32) × (Nat → Int32) × (Nat → Int32) × Int32 × Int32 × Int32 × Int32 × (Nat → Int32) × (Nat → Int32) × (Nat → Int32)) => (((flt Ftx le.toInt).1 ≠ -9 ∧ r.toInt = -3 ∧ u.2.2.2.2.2.2.2.2.2.2.2.2.2.1.toInt = lpe.toInt) ∨ ((flt Ftx le.toInt).1 = -9 ∧ r.toInt = 10 * (flt Ftx le.toInt).2.1 + (flt Ftx le.toInt).2.2 ∧ u.2.2.2.2.2.2.2.2.2.2.2.2.2.1.toInt = (flt Ftx le.toInt).2.1)) ∧ (0 ≤ u.2.2.2.2.2.2.2.2.2.2.2.2.2.1.toInt ∧ u.2.2.2.2.2.2.2.2.2.2.2.2.2.1.toInt ≤ 5) ∧ (0 ≤ u.2.2.2.2.2.2.2.2.2.2.2.2.2.2.1.toInt ∧ u.2.2.2.2.2.2.2.2.2.2.2.2.2.2.1.toInt ≤ 6) ∧ (0 ≤ u.2.2.2.2.2.2.2.2.2.2.2.2.2.2.2.2.2.2.2.2.2.2.2.1.toInt ∧ u.2.2.2.2.2.2.2.2.2.2.2.2.2.2.2.2.2.2.2.2.2.2.2.1.toInt ≤ 10) ∧ (0 ≤ u.2.2.2.2.2.2.2.2.2.2.2.2.2.2.2.2.2.2.2.2.2.2.2.2.1.toInt ∧ u.2.2.2.2.2.2.2.2.2.2.2.2.2.2.2.2.2.2.2.2.2.2.2.2.1.toInt ≤ 6) ∧ (0 ≤ u.1.toInt ∧ u.1.toInt ≤ 13) ∧ (0 ≤ u.2.1.toInt ∧ u.2.1.toInt ≤ 14))) (W1 := (fun u => [(h0, .inr (3, [.ref tx, .int le, .ref td, .ref dr, .ref nw, .ref ac, .int u.1, .int u.2.1, .ref kp, .int u.2.2.1, .ref sp, .ref ss, .ref sy, .int sc, .long sd, .ref tr, .ref ia])), (tx, .inl (cI, 64, .inl Ftx)), (dr, .inr (0, [.int u.2.2.2.1, .int u.2.2.2.2.1, .ref dho, .ref dli, .ref dki, .ref dfd, .ref dfr, .ref dto, .ref dse, .ref dhl])), (dho, .inl (cI, 5, .inl u.2.2.2.2.2.1)), (dli, .inl (cI, 5, .inl u.2.2.2.2.2.2.1)), (dki, .inl (cI, 5, .inl u.2.2.2.2.2.2.2.1)), (dfd, .inl (cI, 7, .inl u.2.2.2.2.2.2.2.2.1)), (dfr, .inl (cI, 7, .inl u.2.2.2.2.2.2.2.2.2.1)), (dto, .inl (cI, 7, .inl u.2.2.2.2.2.2.2.2.2.2.1)), (dse, .inl (cI, 7, .inl u.2.2.2.2.2.2.2.2.2.2.2.1)), (dhl, .inl (cI, 7, .inl u.2.2.2.2.2.2.2.2.2.2.2.2.1)), (td, .inr (0, [.int u.2.2.2.2.2.2.2.2.2.2.2.2.2.1, .int u.2.2.2.2.2.2.2.2.2.2.2.2.2.2.1, .ref lho, .ref lli, .ref lki, .ref lfd, .ref lfr, .ref lto, .ref lse, .ref lhl])), (lho, .inl (cI, 5, .inl u.2.2.2.2.2.2.2.2.2.2.2.2.2.2.2.1)), (lli, .inl (cI, 5, .inl u.2.2.2.2.2.2.2.2.2.2.2.2.2.2.2.2.1)), (lki, .inl (cI, 5, .inl u.2.2.2.2.2.2.2.2.2.2.2.2.2.2.2.2.2.1)), (lfd, .inl (cI, 7, .inl u.2.2.2.2.2.2.2.2.2.2.2.2.2.2.2.2.2.2.1)), (lfr, .inl (cI, 7, .inl u.2.2.2.2.2.2.2.2.2.2.2.2.2.2.2.2.2.2.2.1)), (lto, .inl (cI, 7, .inl u.2.2.2.2.2.2.2.2.2.2.2.2.2.2.2.2.2.2.2.2.1)), (lse, .inl (cI, 7, .inl u.2.2.2.2.2.2.2.2.2.2.2.2.2.2.2.2.2.2.2.2.2.1)), (lhl, .inl (cI, 7, .inl u.2.2.2.2.2.2.2.2.2.2.2.2.2.2.2.2.2.2.2.2.2.2.1)), (nw, .inr (1, [.ref td, .int u.2.2.2.2.2.2.2.2.2.2.2.2.2.2.2.2.2.2.2.2.2.2.2.1, .int u.2.2.2.2.2.2.2.2.2.2.2.2.2.2.2.2.2.2.2.2.2.2.2.2.1, .int u.2.2.2.2.2.2.2.2.2.2.2.2.2.2.2.2.2.2.2.2.2.2.2.2.2.1, .int u.2.2.2.2.2.2.2.2.2.2.2.2.2.2.2.2.2.2.2.2.2.2.2.2.2.2.1, .ref mat, .ref mfd, .ref mhd])), (mat, .inl (cI, 5, .inl u.2.2.2.2.2.2.2.2.2.2.2.2.2.2.2.2.2.2.2.2.2.2.2.2.2.2.2.1)), (mfd, .inl (cI, 7, .inl u.2.2.2.2.2.2.2.2.2.2.2.2.2.2.2.2.2.2.2.2.2.2.2.2.2.2.2.2.1)), (mhd, .inl (cI, 7, .inl u.2.2.2.2.2.2.2.2.2.2.2.2.2.2.2.2.2.2.2.2.2.2.2.2.2.2.2.2.2))])) (0, 0, 0, pe1_1, tk1_2, Gho_3, Gli_4, Gki_5, Gfd_6, Gfr_7, Gto_8, Gse_9, Ghl_10, pe1_1, tk1_2, Gho_15, Gli_16, Gki_17, Gfd_18, Gfr_19, Gto_20, Gse_21, Ghl_22, 0, tk1_2, 0, 0, Gat_25, Gfd_26, Ghd_27) hx hb hr hlocks rfl hQ hK hP hD hS ⟨by decide, by decide⟩ dX3_line_68 (show (((flt Ftx le.toInt).1 ≠ -9 ∧ v_33.toInt = -3 ∧ pe1_1.toInt = lpe.toInt) ∨ ((flt Ftx le.toInt).1 = -9 ∧ v_33.toInt = 10 * (flt Ftx le.toInt).2.1 + (flt Ftx le.toInt).2.2 ∧ pe1_1.toInt = (flt Ftx le.toInt).2.1)) ∧ (0 ≤ pe1_1.toInt ∧ pe1_1.toInt ≤ 5) ∧ (0 ≤ tk1_2.toInt ∧ tk1_2.toInt ≤ 6) ∧ (0 ≤ (0 : Int) ∧ (0 : Int) ≤ 10) ∧ (0 ≤ tk1_2.toInt ∧ tk1_2.toInt ≤ 6) ∧ (0 ≤ (0 : Int) ∧ (0 : Int) ≤ 13) ∧ (0 ≤ (0 : Int) ∧ (0 : Int) ≤ 14) from ⟨by omega, by omega, by omega, by omega, by omega, by omega, by omega⟩)
  · have tc_14 := b_ne rfl (show ((-9) : Int32).toInt = -9 by decide) c_14
    refine lv_bipush (v := (-3)) hx hb dX3_line_20 (by decide) ?_
    exact ret_i (post := (fun (r : Int32) (u : Int32 × Int32 × Int32 × Int32 × Int32 × (Nat → Int32) × (Nat → Int32) × (Nat → Int32) × (Nat → Int32) × (Nat → Int32) × (Nat → Int32) × (Nat → Int32) × (Nat → Int32) × Int32 × Int32 × (Nat → Int32) × (Nat → Int32) × (Nat → Int32) × (Nat → Int32) × (Nat → Int32) × (Nat → Int32) × (Nat → Int32) × (Nat → Int32) × Int32 × Int32 × Int32 × Int32 × (Nat → Int32) × (Nat → Int32) × (Nat → Int32)) => (((flt Ftx le.toInt).1 ≠ -9 ∧ r.toInt = -3 ∧ u.2.2.2.2.2.2.2.2.2.2.2.2.2.1.toInt = lpe.toInt) ∨ ((flt Ftx le.toInt).1 = -9 ∧ r.toInt = 10 * (flt Ftx le.toInt).2.1 + (flt Ftx le.toInt).2.2 ∧ u.2.2.2.2.2.2.2.2.2.2.2.2.2.1.toInt = (flt Ftx le.toInt).2.1)) ∧ (0 ≤ u.2.2.2.2.2.2.2.2.2.2.2.2.2.1.toInt ∧ u.2.2.2.2.2.2.2.2.2.2.2.2.2.1.toInt ≤ 5) ∧ (0 ≤ u.2.2.2.2.2.2.2.2.2.2.2.2.2.2.1.toInt ∧ u.2.2.2.2.2.2.2.2.2.2.2.2.2.2.1.toInt ≤ 6) ∧ (0 ≤ u.2.2.2.2.2.2.2.2.2.2.2.2.2.2.2.2.2.2.2.2.2.2.2.1.toInt ∧ u.2.2.2.2.2.2.2.2.2.2.2.2.2.2.2.2.2.2.2.2.2.2.2.1.toInt ≤ 10) ∧ (0 ≤ u.2.2.2.2.2.2.2.2.2.2.2.2.2.2.2.2.2.2.2.2.2.2.2.2.1.toInt ∧ u.2.2.2.2.2.2.2.2.2.2.2.2.2.2.2.2.2.2.2.2.2.2.2.2.1.toInt ≤ 6) ∧ (0 ≤ u.1.toInt ∧ u.1.toInt ≤ 13) ∧ (0 ≤ u.2.1.toInt ∧ u.2.1.toInt ≤ 14))) (W1 := (fun u => [(h0, .inr (3, [.ref tx, .int le, .ref td, .ref dr, .ref nw, .ref ac, .int u.1, .int u.2.1, .ref kp, .int u.2.2.1, .ref sp, .ref ss, .ref sy, .int sc, .long sd, .ref tr, .ref ia])), (tx, .inl (cI, 64, .inl Ftx)), (dr, .inr (0, [.int u.2.2.2.1, .int u.2.2.2.2.1, .ref dho, .ref dli, .ref dki, .ref dfd, .ref dfr, .ref dto, .ref dse, .ref dhl])), (dho, .inl (cI, 5, .inl u.2.2.2.2.2.1)), (dli, .inl (cI, 5, .inl u.2.2.2.2.2.2.1)), (dki, .inl (cI, 5, .inl u.2.2.2.2.2.2.2.1)), (dfd, .inl (cI, 7, .inl u.2.2.2.2.2.2.2.2.1)), (dfr, .inl (cI, 7, .inl u.2.2.2.2.2.2.2.2.2.1)), (dto, .inl (cI, 7, .inl u.2.2.2.2.2.2.2.2.2.2.1)), (dse, .inl (cI, 7, .inl u.2.2.2.2.2.2.2.2.2.2.2.1)), (dhl, .inl (cI, 7, .inl u.2.2.2.2.2.2.2.2.2.2.2.2.1)), (td, .inr (0, [.int u.2.2.2.2.2.2.2.2.2.2.2.2.2.1, .int u.2.2.2.2.2.2.2.2.2.2.2.2.2.2.1, .ref lho, .ref lli, .ref lki, .ref lfd, .ref lfr, .ref lto, .ref lse, .ref lhl])), (lho, .inl (cI, 5, .inl u.2.2.2.2.2.2.2.2.2.2.2.2.2.2.2.1)), (lli, .inl (cI, 5, .inl u.2.2.2.2.2.2.2.2.2.2.2.2.2.2.2.2.1)), (lki, .inl (cI, 5, .inl u.2.2.2.2.2.2.2.2.2.2.2.2.2.2.2.2.2.1)), (lfd, .inl (cI, 7, .inl u.2.2.2.2.2.2.2.2.2.2.2.2.2.2.2.2.2.2.1)), (lfr, .inl (cI, 7, .inl u.2.2.2.2.2.2.2.2.2.2.2.2.2.2.2.2.2.2.2.1)), (lto, .inl (cI, 7, .inl u.2.2.2.2.2.2.2.2.2.2.2.2.2.2.2.2.2.2.2.2.1)), (lse, .inl (cI, 7, .inl u.2.2.2.2.2.2.2.2.2.2.2.2.2.2.2.2.2.2.2.2.2.1)), (lhl, .inl (cI, 7, .inl u.2.2.2.2.2.2.2.2.2.2.2.2.2.2.2.2.2.2.2.2.2.2.1)), (nw, .inr (1, [.ref td, .int u.2.2.2.2.2.2.2.2.2.2.2.2.2.2.2.2.2.2.2.2.2.2.2.1, .int u.2.2.2.2.2.2.2.2.2.2.2.2.2.2.2.2.2.2.2.2.2.2.2.2.1, .int u.2.2.2.2.2.2.2.2.2.2.2.2.2.2.2.2.2.2.2.2.2.2.2.2.2.1, .int u.2.2.2.2.2.2.2.2.2.2.2.2.2.2.2.2.2.2.2.2.2.2.2.2.2.2.1, .ref mat, .ref mfd, .ref mhd])), (mat, .inl (cI, 5, .inl u.2.2.2.2.2.2.2.2.2.2.2.2.2.2.2.2.2.2.2.2.2.2.2.2.2.2.2.1)), (mfd, .inl (cI, 7, .inl u.2.2.2.2.2.2.2.2.2.2.2.2.2.2.2.2.2.2.2.2.2.2.2.2.2.2.2.2.1)), (mhd, .inl (cI, 7, .inl u.2.2.2.2.2.2.2.2.2.2.2.2.2.2.2.2.2.2.2.2.2.2.2.2.2.2.2.2.2))])) (fa, an, ks, pe1_1, tk1_2, Gho_3, Gli_4, Gki_5, Gfd_6, Gfr_7, Gto_8, Gse_9, Ghl_10, lpe, ltk, lFho, lFli, lFki, lFfd, lFfr, lFto, lFse, lFhl, md, mt, mr, mg, mFat, mFfd, mFhd) hx hb hr hlocks rfl hQ hK hP hD hS ⟨by decide, by decide⟩ dX3_line_22 (show (((flt Ftx le.toInt).1 ≠ -9 ∧ (-3 : Int) = -3 ∧ lpe.toInt = lpe.toInt) ∨ ((flt Ftx le.toInt).1 = -9 ∧ (-3 : Int) = 10 * (flt Ftx le.toInt).2.1 + (flt Ftx le.toInt).2.2 ∧ lpe.toInt = (flt Ftx le.toInt).2.1)) ∧ (0 ≤ lpe.toInt ∧ lpe.toInt ≤ 5) ∧ (0 ≤ ltk.toInt ∧ ltk.toInt ≤ 6) ∧ (0 ≤ md.toInt ∧ md.toInt ≤ 10) ∧ (0 ≤ mt.toInt ∧ mt.toInt ≤ 6) ∧ (0 ≤ fa.toInt ∧ fa.toInt ≤ 13) ∧ (0 ≤ an.toInt ∧ an.toInt ≤ 14) from ⟨by omega, by omega, by omega, by omega, by omega, by omega, by omega⟩)
