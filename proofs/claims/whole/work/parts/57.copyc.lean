/-! copies in the class -/
def Fr (lo hi : Nat) (d e : DY) : Prop := (∀ x k : Nat, (x < lo ∨ hi < x) → gi e x k = gi d x k) ∧ ∀ x k : Nat, gl e x k = gl d x k
theorem Fr_refl (lo hi : Nat) (d : DY) : Fr lo hi d d := ⟨fun _ _ _ => rfl, fun _ _ => rfl⟩
theorem Fr_trans {lo hi lo' hi' : Nat} {d e f : DY} (h1 : Fr lo hi d e) (h2 : Fr lo' hi' e f) (a b : Nat) (ha : a ≤ lo ∧ a ≤ lo') (hb : hi ≤ b ∧ hi' ≤ b) : Fr a b d f :=
  ⟨fun x k h => (h2.1 x k (by omega)).trans (h1.1 x k (by omega)), fun x k => (h2.2 x k).trans (h1.2 x k)⟩
theorem Fr_si (d : DY) (a k : Nat) (v : Int32) (lo hi : Nat) (h : lo ≤ a ∧ a ≤ hi) : Fr lo hi d (si d a k v) :=
  ⟨fun x j q => by rw [gi_si_if, if_neg (by omega)], fun x j => gl_si_eq _ _ _ _ _ _⟩
theorem Fr_wide {lo hi : Nat} {d e : DY} (h1 : Fr lo hi d e) (a b : Nat) (ha : a ≤ lo) (hb : hi ≤ b) : Fr a b d e :=
  ⟨fun x k h => h1.1 x k (by omega), h1.2⟩
def sfold (l : List Nat) (b b' : Nat) (d : DY) : DY := l.foldl (fun d f => si d b' f (gi d b f)) d
def bfold (l : List (Nat × Nat)) (b b' : Nat) (d : DY) : DY := l.foldl (fun d p => cpi d (b + p.1) (b' + p.1) 0 0 p.2) d
theorem gi_sfold (b b' : Nat) (h : b ≠ b') (x k : Nat) : ∀ (l : List Nat) (d : DY), gi (sfold l b b' d) x k = if x = b' ∧ k ∈ l then gi d b k else gi d x k
  | [], d => by rw [if_neg (fun q => by cases q.2)]; rfl
  | f :: r, d => by
    show gi (sfold r b b' (si d b' f (gi d b f))) x k = _
    have e1 : gi (si d b' f (gi d b f)) b k = gi d b k := by rw [gi_si_if, if_neg (fun q => h q.1)]
    have e2 : gi (si d b' f (gi d b f)) x k = if x = b' ∧ k = f then gi d b f else gi d x k := gi_si_if _ _ _ _ _ _
    rw [gi_sfold b b' h x k r, e1, e2]
    by_cases q1 : x = b'
    · by_cases q2 : k ∈ r
      · rw [if_pos ⟨q1, q2⟩, if_pos ⟨q1, List.mem_cons_of_mem _ q2⟩]
      · rw [if_neg (fun z => q2 z.2)]
        by_cases q3 : k = f
        · rw [if_pos ⟨q1, q3⟩, if_pos ⟨q1, by rw [q3]; exact List.mem_cons_self⟩, q3]
        · rw [if_neg (fun z => q3 z.2), if_neg (fun z => by
            rcases List.mem_cons.mp z.2 with w | w
            · exact q3 w
            · exact q2 w)]
    · rw [if_neg (fun z => q1 z.1), if_neg (fun z => q1 z.1), if_neg (fun z => q1 z.1)]
theorem gl_sfold (b b' x k : Nat) : ∀ (l : List Nat) (d : DY), gl (sfold l b b' d) x k = gl d x k
  | [], _ => rfl
  | f :: r, d => (gl_sfold b b' x k r (si d b' f (gi d b f))).trans rfl
theorem gl_bfold (b b' x k : Nat) : ∀ (l : List (Nat × Nat)) (d : DY), gl (bfold l b b' d) x k = gl d x k
  | [], _ => rfl
  | p :: r, d => (gl_bfold b b' x k r (cpi d (b + p.1) (b' + p.1) 0 0 p.2)).trans rfl
theorem gi_bfold_o (b b' x k : Nat) : ∀ (l : List (Nat × Nat)) (d : DY), (∀ p ∈ l, x ≠ b' + p.1) → gi (bfold l b b' d) x k = gi d x k
  | [], _, _ => rfl
  | p :: r, d, h => by
    show gi (bfold r b b' (cpi d (b + p.1) (b' + p.1) 0 0 p.2)) x k = _
    rw [gi_bfold_o b b' x k r _ (fun q hq => h q (List.mem_cons_of_mem _ hq)), gi_cpi_if, if_neg (fun z => h p List.mem_cons_self z.1)]
theorem gi_bfold (b b' h k : Nat) (hd : b + h < b' ∨ b' + h < b) : ∀ (l : List (Nat × Nat)) (d : DY), (∀ p ∈ l, p.1 ≤ h) → l.Pairwise (fun p q => p.1 ≠ q.1) → ∀ p ∈ l, k < p.2 → gi (bfold l b b' d) (b' + p.1) k = gi d (b + p.1) k
  | [], _, _, _, _, hp, _ => by cases hp
  | q :: r, d, hh, hn, p, hp, hk => by
    show gi (bfold r b b' (cpi d (b + q.1) (b' + q.1) 0 0 q.2)) (b' + p.1) k = _
    have hq := hh q List.mem_cons_self
    have hpp := hh p hp
    rcases List.mem_cons.mp hp with e | m
    · rw [gi_bfold_o b b' _ k r _ (fun z hz => by
        have := (List.pairwise_cons.mp hn).1 z hz
        rw [e]
        omega), e, gi_cpi_if, if_pos (by rw [e] at hk; omega), Nat.zero_add, Nat.sub_zero]
    · rw [gi_bfold b b' h k hd r _ (fun z hz => hh z (List.mem_cons_of_mem _ hz)) (List.pairwise_cons.mp hn).2 p m hk, gi_cpi_if, if_neg (fun z => by omega)]
/-- fields and cells of a block, the same as another's -/
def blk (fl : List Nat) (cl : List (Nat × Nat)) (b b' : Nat) (d e : DY) : Prop := (∀ f ∈ fl, gi e b' f = gi d b f) ∧ ∀ p ∈ cl, ∀ k : Nat, k < p.2 → gi e (b' + p.1) k = gi d (b + p.1) k
theorem blk_cp (fl : List Nat) (cl : List (Nat × Nat)) (b b' h : Nat) (d : DY) (hd : b + h < b' ∨ b' + h < b) (hc : ∀ p ∈ cl, 1 ≤ p.1 ∧ p.1 ≤ h) (hn : cl.Pairwise (fun p q => p.1 ≠ q.1)) : blk fl cl b b' d (bfold cl b b' (sfold fl b b' d)) ∧ Fr b' (b' + h) d (bfold cl b b' (sfold fl b b' d)) := by
  refine ⟨⟨fun f hf => ?_, fun p hp k hk => ?_⟩, fun x k hx => ?_, fun x k => ?_⟩
  · rw [gi_bfold_o _ _ _ _ _ _ (fun p hp => by have := hc p hp; omega), gi_sfold _ _ (by omega), if_pos ⟨rfl, hf⟩]
  · have := hc p hp
    rw [gi_bfold _ _ h _ hd _ _ (fun q hq => (hc q hq).2) hn p hp hk, gi_sfold _ _ (by omega), if_neg (by omega)]
  · rw [gi_bfold_o _ _ _ _ _ _ (fun p hp => by have := hc p hp; omega), gi_sfold _ _ (by omega), if_neg (by omega)]
  · rw [gl_bfold, gl_sfold]
theorem blk_step {fl : List Nat} {cl : List (Nat × Nat)} {d d' e e' : DY} {b b' h lo hi lo' hi' : Nat} (hc : ∀ p ∈ cl, p.1 ≤ h) (q : blk fl cl b b' d' e) (h1 : Fr lo hi d d') (h2 : Fr lo' hi' e e') (ha : b + h < lo ∨ hi < b) (hb : b' + h < lo' ∨ hi' < b') : blk fl cl b b' d e' :=
  ⟨fun f hf => (h2.1 b' f (by omega)).trans ((q.1 f hf).trans (h1.1 b f (by omega))), fun p hp k hk => by
    have := hc p hp
    exact (h2.1 _ k (by omega)).trans ((q.2 p hp k hk).trans (h1.1 _ k (by omega)))⟩
def pF : List Nat := [0, 1, 2, 3]
def pC : List (Nat × Nat) := [(1, 96), (2, 12), (3, 12), (4, 12), (5, 12), (6, 12), (7, 12), (8, 12), (9, 12)]
def lF : List Nat := [0]
def lC : List (Nat × Nat) := [(1, 16), (2, 16), (3, 64), (4, 64), (5, 64), (6, 64)]
def wF : List Nat := [2, 3, 4, 5, 6, 7]
def wC : List (Nat × Nat) := [(1, 48), (2, 48), (3, 12), (4, 12), (5, 12), (6, 12), (7, 12), (8, 12), (9, 12), (11, 75)]
def fC : List (Nat × Nat) := [(1, 8), (2, 48), (3, 48)]
theorem c_pcopy (N b b' : Nat) (dy : DY) (hb : b ∈ PB) (hb' : b' ∈ PB) (hd : b + 9 < b' ∨ b' + 9 < b) : ∃ e, F_X4_copyFrom Z0.1 N b' b dy = some e ∧ blk pF pC b b' dy e ∧ Fr b' (b' + 9) dy e := by
  obtain ⟨p1, p2, p3, p4, p5, p6, p7, p8, p9⟩ := pb_of b hb
  obtain ⟨q1, q2, q3, q4, q5, q6, q7, q8, q9⟩ := pb_of b' hb'
  refine ⟨bfold pC b b' (sfold pF b b' dy), ?_, blk_cp pF pC b b' 9 dy hd (by decide) (by decide)⟩
  rw [F_X4_copyFrom_s, bd_eq, bd_eq, bd_eq, bd_eq, if_pos (by decide), bd_eq, if_pos (by decide), bd_eq, if_pos (by decide), bd_eq, if_pos (by decide), bd_eq, if_pos (by decide), bd_eq, if_pos (by decide), bd_eq, if_pos (by decide), bd_eq, if_pos (by decide), bd_eq, if_pos (by decide), bd_eq, p1, p2, p3, p4, p5, p6, p7, p8, p9, q1, q2, q3, q4, q5, q6, q7, q8, q9]
  rfl
theorem c_lcopy (N b b' : Nat) (dy : DY) (hb : b ∈ LB) (hb' : b' ∈ LB) (hd : b + 6 < b' ∨ b' + 6 < b) : ∃ e, F_X2_copyFrom Z0.1 N b' b dy = some e ∧ blk lF lC b b' dy e ∧ Fr b' (b' + 6) dy e := by
  obtain ⟨p1, p2, p3, p4, p5, p6⟩ := lb_of b hb
  obtain ⟨q1, q2, q3, q4, q5, q6⟩ := lb_of b' hb'
  refine ⟨bfold lC b b' (sfold lF b b' dy), ?_, blk_cp lF lC b b' 6 dy hd (by decide) (by decide)⟩
  rw [F_X2_copyFrom_s, bd_eq, if_pos (by decide), bd_eq, if_pos (by decide), bd_eq, if_pos (by decide), bd_eq, if_pos (by decide), bd_eq, if_pos (by decide), bd_eq, if_pos (by decide), bd_eq, p1, p2, p3, p4, p5, p6, q1, q2, q3, q4, q5, q6]
  rfl
theorem c_wcopy (N b b' : Nat) (dy : DY) (hb : b ∈ WB) (hb' : b' ∈ WB) (hd : b + 11 < b' ∨ b' + 11 < b) : ∃ e, F_X8_copyFrom Z0.1 N b' b dy = some e ∧ blk wF wC b b' dy e ∧ Fr b' (b' + 11) dy e := by
  obtain ⟨p1, p2, p3, p4, p5, p6, p7, p8, p9, p10, p11⟩ := wb_of b hb
  obtain ⟨q1, q2, q3, q4, q5, q6, q7, q8, q9, q10, q11⟩ := wb_of b' hb'
  refine ⟨bfold wC b b' (sfold wF b b' dy), ?_, blk_cp wF wC b b' 11 dy hd (by decide) (by decide)⟩
  rw [F_X8_copyFrom_s, bd_eq, bd_eq, bd_eq, bd_eq, bd_eq, bd_eq, if_pos (by decide), bd_eq, if_pos (by decide), bd_eq, if_pos (by decide), bd_eq, if_pos (by decide), bd_eq, if_pos (by decide), bd_eq, if_pos (by decide), bd_eq, if_pos (by decide), bd_eq, if_pos (by decide), bd_eq, if_pos (by decide), bd_eq, if_pos (by decide), bd_eq, p1, p2, p3, p4, p5, p6, p7, p8, p9, p11, q1, q2, q3, q4, q5, q6, q7, q8, q9, q11]
  rfl
theorem c_fcopy (N b b' : Nat) (dy : DY) (hb : b ∈ FB) (hb' : b' ∈ FB) (hd : b + 3 < b' ∨ b' + 3 < b) : ∃ e, F_X1_copyFrom Z0.1 N b' b dy = some e ∧ blk [] fC b b' dy e ∧ Fr b' (b' + 3) dy e := by
  obtain ⟨p1, p2, p3, _, _⟩ := fb_of b hb
  obtain ⟨q1, q2, q3, _, _⟩ := fb_of b' hb'
  refine ⟨bfold fC b b' (sfold [] b b' dy), ?_, blk_cp [] fC b b' 3 dy hd (by decide) (by decide)⟩
  rw [F_X1_copyFrom_s, if_pos (by decide), bd_eq, if_pos (by decide), bd_eq, if_pos (by decide), bd_eq, p1, p2, p3, q1, q2, q3]
  rfl
