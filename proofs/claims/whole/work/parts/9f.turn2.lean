/-! LIKE TERMS: THE TURNINGS COUNT THE UNLIKE WAYS -/
def opP (u : Tm) (c : Nat) (f : Int → Int) : Int → Int := PW (tV u) (tH u - tL u + 1).toNat (tL u) (c : Int) f
def evM (T : Nat → Tm) : Mo → (Int → Int) → Int → Int
  | [], f => f
  | q :: mo, f => opP (T q.1) q.2 (evM T mo f)
def evC (u : Tm) : List Nat → (Int → Int) → Int → Int
  | [], f => f
  | c :: cs, f => opP u c (evC u cs f)
theorem opP_comm (u u2 : Tm) (c c2 : Nat) (f : Int → Int) : opP u c (opP u2 c2 f) = opP u2 c2 (opP u c f) := funext fun n => PW_comm _ _ _ _ _ _ n
theorem opP_add (u : Tm) (c : Nat) (f g : Int → Int) (n : Int) : opP u c (fun n => f n + g n) n = opP u c f n + opP u c g n := PW_add _ _ _ n
theorem opP_mul (u : Tm) (c : Nat) (a : Int) (f : Int → Int) (n : Int) : opP u c (fun n => a * f n) n = a * opP u c f n := PW_mul a _ _ _ n
theorem evM_perm {T : Nat → Tm} {f : Int → Int} {a b : Mo} (h : a.Perm b) : evM T a f = evM T b f := by
  induction h with
  | nil => rfl
  | cons q _ ih =>
    unfold evM
    rw [ih]
  | swap q r l =>
    unfold evM evM
    exact opP_comm _ _ _ _ _
  | trans _ _ h1 h2 => exact h1.trans h2
theorem inM_perm (q : Nat × Nat) : ∀ l : Mo, (inM q l).Perm (q :: l)
  | [] => List.Perm.refl _
  | x :: l => by
    unfold inM
    split
    · exact List.Perm.refl _
    · exact ((inM_perm q l).cons x).trans (List.Perm.swap q x l)
theorem soM_perm : ∀ l : Mo, (soM l).Perm l
  | [] => List.Perm.refl _
  | q :: l => (inM_perm q (soM l)).trans ((soM_perm l).cons q)
def smL (T : Nat → Tm) (f : Int → Int) (n : Int) : List Mo → Int
  | [] => 0
  | mo :: L => evM T mo f n + smL T f n L
section SM
variable {T : Nat → Tm} {f : Int → Int} {n : Int}
theorem smL_perm {a b : List Mo} (h : a.Perm b) : smL T f n a = smL T f n b := by
  induction h with
  | nil => rfl
  | cons q _ ih =>
    unfold smL
    rw [ih]
  | swap q r l =>
    simp only [smL]
    omega
  | trans _ _ h1 h2 => exact h1.trans h2
theorem smL_app : ∀ a b : List Mo, smL T f n (a ++ b) = smL T f n a + smL T f n b
  | [], b => by simp [smL]
  | mo :: a, b => by
    show evM T mo f n + smL T f n (a ++ b) = evM T mo f n + smL T f n a + smL T f n b
    rw [smL_app a b]
    omega
theorem smL_so : ∀ L : List Mo, smL T f n (L.map soM) = smL T f n L
  | [] => rfl
  | mo :: L => by
    show evM T (soM mo) f n + smL T f n (L.map soM) = _
    rw [evM_perm (soM_perm mo), smL_so L]
    rfl
theorem smL_rp (mo : Mo) : ∀ k : Nat, smL T f n (rpL k [mo]) = (k : Int) * evM T mo f n
  | 0 => (Int.zero_mul _).symm
  | k + 1 => by
    show evM T mo f n + smL T f n (rpL k [mo]) = _
    rw [smL_rp mo k, show ((k + 1 : Nat) : Int) = (k : Int) + 1 by omega, Int.add_mul, Int.one_mul]
    omega
/-- what the model adds up -/
def wsK (T : Nat → Tm) (p : List Nat) (f : Int → Int) (n : Int) : KL → Int
  | [] => 0
  | q :: K => (q.2 : Int) * evM T (mnB p q.1 []) f n + wsK T p f n K
theorem smL_fl (p : List Nat) : ∀ K : KL, smL T f n (flK p K) = wsK T p f n K
  | [] => rfl
  | q :: K => by
    show smL T f n (rpL q.2 [soM (mnB p q.1 [])] ++ flK p K) = _
    rw [smL_app, smL_rp, smL_fl p K, evM_perm (soM_perm _)]
    rfl
def smC (u : Tm) (f : Int → Int) (n : Int) : List (List Nat) → Int
  | [] => 0
  | cs :: Z => evC u cs f n + smC u f n Z
variable {u : Tm}
theorem smC_app : ∀ a b : List (List Nat), smC u f n (a ++ b) = smC u f n a + smC u f n b
  | [], b => by simp [smC]
  | mo :: a, b => by
    show evC u mo f n + smC u f n (a ++ b) = evC u mo f n + smC u f n a + smC u f n b
    rw [smC_app a b]
    omega
theorem smC_rp (Z : List (List Nat)) : ∀ k : Nat, smC u f n (rpL k Z) = (k : Int) * smC u f n Z
  | 0 => (Int.zero_mul _).symm
  | k + 1 => by
    show smC u f n (Z ++ rpL k Z) = _
    rw [smC_app, smC_rp Z k, show ((k + 1 : Nat) : Int) = (k : Int) + 1 by omega, Int.add_mul, Int.one_mul]
    omega
theorem evC_add (f g : Int → Int) : ∀ (cs : List Nat) (n : Int), evC u cs (fun n => f n + g n) n = evC u cs f n + evC u cs g n
  | [], n => rfl
  | c :: cs, n => by
    show opP u c (evC u cs fun n => f n + g n) n = opP u c (evC u cs f) n + opP u c (evC u cs g) n
    rw [← opP_add, show (evC u cs fun n => f n + g n) = fun n => evC u cs f n + evC u cs g n from funext (evC_add f g cs)]
theorem evC_mul (a : Int) (f : Int → Int) : ∀ (cs : List Nat) (n : Int), evC u cs (fun n => a * f n) n = a * evC u cs f n
  | [], n => rfl
  | c :: cs, n => by
    show opP u c (evC u cs fun n => a * f n) n = a * opP u c (evC u cs f) n
    rw [← opP_mul, show (evC u cs fun n => a * f n) = fun n => a * evC u cs f n from funext (evC_mul a f cs)]
theorem evC_z : ∀ (cs : List Nat) (n : Int), evC u cs (fun _ => 0) n = 0 := fun cs n => by
  have := evC_mul (u := u) 0 (fun _ => 0) cs n
  simpa using this
theorem smC_mul (a : Int) (f : Int → Int) (n : Int) : ∀ Z : List (List Nat), smC u (fun n => a * f n) n Z = a * smC u f n Z
  | [] => (Int.mul_zero a).symm
  | cs :: Z => by
    show evC u cs (fun n => a * f n) n + smC u (fun n => a * f n) n Z = a * (evC u cs f n + smC u f n Z)
    rw [evC_mul, smC_mul a f n Z, Int.mul_add]
theorem smC_cons (c : Nat) (f : Int → Int) (n : Int) : ∀ Z : List (List Nat), smC u f n (Z.map (c :: ·)) = opP u c (fun n => smC u f n Z) n
  | [] => by
    have := opP_mul u c 0 (fun _ => 0) n
    show (0 : Int) = opP u c (fun _ => 0) n
    simpa using this.symm
  | cs :: Z => by
    show opP u c (evC u cs f) n + smC u f n (Z.map (c :: ·)) = opP u c (fun n => evC u cs f n + smC u f n Z) n
    rw [smC_cons c f n Z, opP_add]
theorem evM_app (b : Nat) (mo : Mo) : ∀ cs : List Nat, evM T (cs.map (fun c => (b, c)) ++ mo) f = evC (T b) cs (evM T mo f)
  | [] => rfl
  | c :: cs => by
    show opP (T b) c (evM T (cs.map (fun c => (b, c)) ++ mo) f) = opP (T b) c (evC (T b) cs (evM T mo f))
    rw [evM_app b mo cs]
theorem smL_map (b : Nat) (cs : List Nat) (n : Int) : ∀ M : List Mo, smL T f n (M.map fun mo => cs.map (fun c => (b, c)) ++ mo) = evC (T b) cs (fun n => smL T f n M) n
  | [] => (evC_z cs n).symm
  | mo :: M => by
    show evM T (cs.map (fun c => (b, c)) ++ mo) f n + smL T f n (M.map _) = evC (T b) cs (fun n => evM T mo f n + smL T f n M) n
    rw [evM_app, smL_map b cs n M, evC_add]
theorem smL_flat (b : Nat) (M : List Mo) (n : Int) : ∀ Z : List (List Nat), smL T f n (Z.flatMap fun cs => M.map fun mo => cs.map (fun c => (b, c)) ++ mo) = smC (T b) (fun n => smL T f n M) n Z
  | [] => rfl
  | cs :: Z => by
    rw [List.flatMap_cons, smL_app, smL_map, smL_flat b M n Z]
    rfl
/-- the rounds of like terms -/
def hkU (u : Tm) (k : Nat) (f : Int → Int) : Int → Int := hk (tV u) (tH u - tL u + 1).toNat (tL u) k f
theorem nwU (u : Tm) (k : Nat) (f : Int → Int) (n : Int) : (k : Int) * hkU u k f n = nS (fun i => opP u i (hkU u (k - i) f) n) k := newton _ _ k n
theorem opP_sm {u : Tm} {c a : Nat} {f : Int → Int} {n : Int} {Z : List (List Nat)} {h : Int → Int} (e : ∀ n, smC u f n Z = (a : Int) * h n) : smC u f n (Z.map (c :: ·)) = (a : Int) * opP u c h n := by
  rw [smC_cons, ← opP_mul, show (fun n => smC u f n Z) = fun n => (a : Int) * h n from funext e]
theorem ZF_ok (u : Tm) (f : Int → Int) : ∀ k, k ≤ 5 → ∀ n, smC u f n (ZF k) = (fcT k : Int) * hkU u k f n := by
  have z0 : ∀ n, smC u f n (ZF 0) = ((1 : Nat) : Int) * hkU u 0 f n := fun n => by
    rw [show ZF 0 = [[]] from by conv => lhs; rw [ZF]]
    show f n + 0 = _
    unfold hkU
    rw [hk_0]
    omega
  have z1 : ∀ n, smC u f n (ZF 1) = ((1 : Nat) : Int) * hkU u 1 f n := fun n => by
    have e := nwU u 1 f n
    simp only [nS] at e
    rw [show ZF 1 = (ZF 0).map (1 :: ·) from by conv => lhs; rw [ZF]]
    rw [opP_sm z0]
    simp at e ⊢
    omega
  have z2 : ∀ n, smC u f n (ZF 2) = ((2 : Nat) : Int) * hkU u 2 f n := fun n => by
    have e := nwU u 2 f n
    simp only [nS] at e
    rw [show ZF 2 = (ZF 1).map (1 :: ·) ++ (ZF 0).map (2 :: ·) from by conv => lhs; rw [ZF]]
    rw [smC_app, opP_sm z1, opP_sm z0]
    simp at e ⊢
    omega
  have z3 : ∀ n, smC u f n (ZF 3) = ((6 : Nat) : Int) * hkU u 3 f n := fun n => by
    have e := nwU u 3 f n
    simp only [nS] at e
    rw [show ZF 3 = (ZF 2).map (1 :: ·) ++ (rpL 2 ((ZF 1).map (2 :: ·)) ++ rpL 2 ((ZF 0).map (3 :: ·))) from by conv => lhs; rw [ZF]]
    rw [smC_app, smC_app, smC_rp, smC_rp, opP_sm z2, opP_sm z1, opP_sm z0]
    simp at e ⊢
    omega
  have z4 : ∀ n, smC u f n (ZF 4) = ((24 : Nat) : Int) * hkU u 4 f n := fun n => by
    have e := nwU u 4 f n
    simp only [nS] at e
    rw [show ZF 4 = (ZF 3).map (1 :: ·) ++ (rpL 3 ((ZF 2).map (2 :: ·)) ++ (rpL 6 ((ZF 1).map (3 :: ·)) ++ rpL 6 ((ZF 0).map (4 :: ·)))) from by conv => lhs; rw [ZF]]
    rw [smC_app, smC_app, smC_app, smC_rp, smC_rp, smC_rp, opP_sm z3, opP_sm z2, opP_sm z1, opP_sm z0]
    simp at e ⊢
    omega
  have z5 : ∀ n, smC u f n (ZF 5) = ((120 : Nat) : Int) * hkU u 5 f n := fun n => by
    have e := nwU u 5 f n
    simp only [nS] at e
    rw [show ZF 5 = (ZF 4).map (1 :: ·) ++ (rpL 4 ((ZF 3).map (2 :: ·)) ++ (rpL 12 ((ZF 2).map (3 :: ·)) ++ (rpL 24 ((ZF 1).map (4 :: ·)) ++ rpL 24 ((ZF 0).map (5 :: ·))))) from by conv => lhs; rw [ZF]]
    rw [smC_app, smC_app, smC_app, smC_app, smC_rp, smC_rp, smC_rp, smC_rp, opP_sm z4, opP_sm z3, opP_sm z2, opP_sm z1, opP_sm z0]
    simp at e ⊢
    omega
  intro k hk n
  have : k = 0 ∨ k = 1 ∨ k = 2 ∨ k = 3 ∨ k = 4 ∨ k = 5 := by omega
  rcases this with rfl | rfl | rfl | rfl | rfl | rfl
  · exact z0 n
  · exact z1 n
  · exact z2 n
  · exact z3 n
  · exact z4 n
  · exact z5 n
end SM
/-! labels -/
def fiT : List Tm → Tm → Nat
  | [], _ => 0
  | x :: l, u => if x = u then 0 else fiT l u + 1
theorem fiT_le : ∀ (l : List Tm) (i : Nat) (u : Tm), l[i]? = some u → fiT l u ≤ i
  | [], i, u, h => by cases h
  | x :: l, 0, u, h => by
    cases h
    unfold fiT
    rw [if_pos rfl]
    exact Nat.le_refl _
  | x :: l, i + 1, u, h => by
    unfold fiT
    split
    · exact Nat.zero_le _
    · have := fiT_le l i u h
      omega
theorem fiT_get (d : Tm) : ∀ (l : List Tm) (u : Tm), u ∈ l → l.getD (fiT l u) d = u
  | [], u, h => absurd h List.not_mem_nil
  | x :: l, u, h => by
    unfold fiT
    by_cases e : x = u
    · rw [if_pos e]
      exact e
    · rw [if_neg e]
      exact fiT_get d l u ((List.mem_cons.mp h).resolve_left fun z => e z.symm)
theorem RFF_ok {T : Nat → Tm} {lab : Tm → Nat} {f : Int → Int} : ∀ (us pus : List Tm) (M : List Mo) (a : Nat) (F : Int → Int), (∀ u, u ∈ us ∨ u ∈ pus → T (lab u) = u) → us.length ≤ 5 → (∀ n, smL T f n M = (a : Int) * F n) → ∀ n, smL T f n (RFF (pus.map lab) (us.map lab) M) = (FCC (pus.map lab) (us.map lab) a : Int) * uwF pus us F n
  | [], pus, M, a, F, _, _, h, n => h n
  | u :: us, pus, M, a, F, hT, hl, h, n => by
    have inj : ∀ v, v ∈ us ∨ v ∈ pus → (lab v = lab u ↔ v = u) := fun v hv => ⟨fun e => by
      have h1 := hT v (hv.imp (List.mem_cons_of_mem _) id)
      have h2 := hT u (Or.inl List.mem_cons_self)
      rw [e, h2] at h1
      exact h1.symm, fun e => by rw [e]⟩
    have hm : lab u ∈ pus.map lab ↔ u ∈ pus := ⟨fun z => by
      obtain ⟨v, hv, e⟩ := List.mem_map.mp z
      rw [← (inj v (Or.inr hv)).mp e]
      exact hv, fun z => List.mem_map_of_mem z⟩
    have hc : ∀ l : List Tm, (∀ v ∈ l, v ∈ us) → (l.map lab).count (lab u) = l.count u := by
      intro l
      induction l with
      | nil => intro _; rfl
      | cons v l ih =>
        intro hv
        have h1 := ih fun x hx => hv x (List.mem_cons_of_mem _ hx)
        have h2 := inj v (Or.inl (hv v List.mem_cons_self))
        rw [List.map_cons, List.count_cons, List.count_cons, h1]
        by_cases e : v = u
        · rw [e]
          simp
        · rw [if_neg (by simpa using fun z => e (h2.mp z)), if_neg (by simpa using e)]
    have hcu := hc us fun v hv => hv
    have hcl := List.count_le_length (l := us) (a := u)
    rw [List.length_cons] at hl
    show smL T f n (RFF ((u :: pus).map lab) (us.map lab) (if lab u ∈ pus.map lab then M else _)) = (FCC ((u :: pus).map lab) (us.map lab) (if lab u ∈ pus.map lab then a else _) : Int) * uwF (u :: pus) us (if u ∈ pus then F else hk (tV u) (tH u - tL u + 1).toNat (tL u) (us.count u + 1) F) n
    have hT2 : ∀ v, v ∈ us ∨ v ∈ u :: pus → T (lab v) = v := fun v hv => hT v (by
      rcases hv with z | z
      · exact Or.inl (List.mem_cons_of_mem _ z)
      · rcases List.mem_cons.mp z with z | z
        · exact Or.inl (z ▸ List.mem_cons_self)
        · exact Or.inr z)
    by_cases hp : u ∈ pus
    · rw [if_pos (hm.mpr hp), if_pos (hm.mpr hp), if_pos hp]
      exact RFF_ok us (u :: pus) M a F hT2 (by omega) h n
    · rw [if_neg (fun z => hp (hm.mp z)), if_neg (fun z => hp (hm.mp z)), if_neg hp]
      refine RFF_ok us (u :: pus) _ _ _ hT2 (by omega) (fun n => ?_) n
      rw [smL_flat, hT u (Or.inl List.mem_cons_self), hcu, show (fun n => smL T f n M) = fun n => (a : Int) * F n from funext h, smC_mul, ZF_ok u F _ (by omega), ← Int.mul_assoc]
      show (a : Int) * (fcT (us.count u + 1) : Int) * hkU u (us.count u + 1) F n = ((fcT (us.count u + 1) * a : Nat) : Int) * hk (tV u) _ _ _ F n
      rw [show ((fcT (us.count u + 1) * a : Nat) : Int) = (fcT (us.count u + 1) : Int) * (a : Int) from Int.natCast_mul _ _, Int.mul_comm (a : Int)]
      rfl
def dlt : Int → Int := fun n => if n = 0 then 1 else 0
def u0 : Tm := (1, 0, 0, 0)
def TT2 (ts : List Tm) (b : Nat) : Tm := ts.getD b u0
def lbs (ts : List Tm) : List Nat := ts.map (fiT ts)
theorem RFF_uw (ts : List Tm) (h5 : ts.length ≤ 5) (n : Int) : smL (TT2 ts) dlt n (RFF [] (lbs ts) [[]]) = (FCC [] (lbs ts) 1 : Int) * uw ts n := by
  refine RFF_ok (lab := fiT ts) ts [] [[]] 1 dlt (fun u hu => fiT_get u0 ts u (hu.resolve_right List.not_mem_nil)) h5 (fun n => ?_) n
  show dlt n + 0 = _
  rw [show ((1 : Nat) : Int) = 1 from rfl, Int.one_mul, Int.add_zero]
theorem chk_all {ts : List Tm} (h1 : 1 ≤ ts.length) (h5 : ts.length ≤ 5) : chk (lbs ts) = true := by
  have fi : ∀ (i : Nat) (u : Tm), ts[i]? = some u → fiT ts u ≤ i := fiT_le ts
  unfold lbs
  generalize fiT ts = F at fi
  rcases ts with _ | ⟨a, _ | ⟨b, _ | ⟨c, _ | ⟨d, _ | ⟨e, _ | ⟨g, t⟩⟩⟩⟩⟩⟩
  · exact absurd h1 (by decide)
  · have f0 := fi 0 a rfl
    show chk [F a] = true
    rw [show F a = 0 by omega]
    exact chk_1
  · have f0 := fi 0 a rfl
    have f1 := fi 1 b rfl
    show chk [F a, F b] = true
    rw [show F a = 0 by omega]
    exact chk_2 ⟨F b, by omega⟩
  · have f0 := fi 0 a rfl
    have f1 := fi 1 b rfl
    have f2 := fi 2 c rfl
    show chk [F a, F b, F c] = true
    rw [show F a = 0 by omega]
    exact chk_3 ⟨F b, by omega⟩ ⟨F c, by omega⟩
  · have f0 := fi 0 a rfl
    have f1 := fi 1 b rfl
    have f2 := fi 2 c rfl
    have f3 := fi 3 d rfl
    show chk [F a, F b, F c, F d] = true
    rw [show F a = 0 by omega]
    exact chk_4 ⟨F b, by omega⟩ ⟨F c, by omega⟩ ⟨F d, by omega⟩
  · have f0 := fi 0 a rfl
    have f1 := fi 1 b rfl
    have f2 := fi 2 c rfl
    have f3 := fi 3 d rfl
    have f4 := fi 4 e rfl
    show chk [F a, F b, F c, F d, F e] = true
    rw [show F a = 0 by omega]
    exact chk_5 ⟨F b, by omega⟩ ⟨F c, by omega⟩ ⟨F d, by omega⟩ ⟨F e, by omega⟩
  · exact absurd h5 (by simp)
theorem rsum_bd {f : Int → Int} {B : Int} (hB : 0 ≤ B) (h : ∀ n, 0 ≤ f n ∧ f n ≤ B) : ∀ (m : Nat) (l : Int), 0 ≤ rsum f l m ∧ rsum f l m ≤ (m : Int) * B
  | 0, l => ⟨Int.le_refl _, by rw [show (((0 : Nat) : Int)) * B = 0 from Int.zero_mul B]; exact Int.le_refl _⟩
  | m + 1, l => by
    have ih := rsum_bd hB h m (l + 1)
    have h0 := h l
    have e : ((m + 1 : Nat) : Int) * B = (m : Int) * B + B := by rw [show ((m + 1 : Nat) : Int) = (m : Int) + 1 by omega, Int.add_mul, Int.one_mul]
    rw [rsum]
    omega
theorem evM_bd {T : Nat → Tm} (hT : ∀ b, tH (T b) - tL (T b) + 1 ≤ 6001) : ∀ (mo : Mo) (n : Int), 0 ≤ evM T mo dlt n ∧ evM T mo dlt n ≤ ((6001 ^ mo.length : Nat) : Int)
  | [], n => by
    show 0 ≤ dlt n ∧ dlt n ≤ 1
    unfold dlt
    split <;> omega
  | q :: mo, n => by
    have ih := evM_bd hT mo
    have hp : (0 : Int) ≤ ((6001 ^ mo.length : Nat) : Int) := Int.natCast_nonneg _
    have h := rsum_bd (f := fun x => evM T mo dlt (n - (q.2 : Int) * tV (T q.1) x)) hp (fun x => ih _) (tH (T q.1) - tL (T q.1) + 1).toNat (tL (T q.1))
    have h2 := hT q.1
    have e : ((6001 ^ (q :: mo).length : Nat) : Int) = 6001 * ((6001 ^ mo.length : Nat) : Int) := by
      rw [List.length_cons, Nat.pow_succ, Nat.mul_comm, Int.natCast_mul]
      rfl
    have h3 := Int.mul_le_mul_of_nonneg_right (show (((tH (T q.1) - tL (T q.1) + 1).toNat : Nat) : Int) ≤ 6001 by omega) hp
    refine ⟨h.1, ?_⟩
    rw [e]
    exact Int.le_trans h.2 h3
theorem wsK_bd {T : Nat → Tm} (hT : ∀ b, tH (T b) - tL (T b) + 1 ≤ 6001) (p : List Nat) (n : Int) : ∀ K : KL, 0 ≤ wsK T p dlt n K ∧ wsK T p dlt n K ≤ (bdK p K : Int)
  | [] => ⟨Int.le_refl _, Int.le_refl _⟩
  | q :: K => by
    have ih := wsK_bd hT p n K
    have h := evM_bd hT (mnB p q.1 []) n
    have h1 := Int.mul_nonneg (Int.natCast_nonneg q.2) h.1
    have h2 := Int.mul_le_mul_of_nonneg_left h.2 (Int.natCast_nonneg q.2)
    have e : (bdK p (q :: K) : Int) = (q.2 : Int) * ((6001 ^ (mnB p q.1 []).length : Nat) : Int) + (bdK p K : Int) := by
      show ((q.2 * 6001 ^ (mnB p q.1 []).length + bdK p K : Nat) : Int) = _
      rw [Int.natCast_add, Int.natCast_mul]
    rw [e]
    show 0 ≤ (q.2 : Int) * evM T (mnB p q.1 []) dlt n + wsK T p dlt n K ∧ (q.2 : Int) * evM T (mnB p q.1 []) dlt n + wsK T p dlt n K ≤ _
    omega
theorem FCC_pos : ∀ (bs pre : List Nat) (a : Nat), 1 ≤ a → 1 ≤ FCC pre bs a
  | [], pre, a, h => h
  | b :: bs, pre, a, h => by
    have fp : ∀ k, 1 ≤ fcT k := fun k => by
      induction k with
      | zero => exact Nat.le_refl _
      | succ k ih => exact Nat.mul_pos (Nat.succ_pos k) ih
    refine FCC_pos bs (b :: pre) _ ?_
    split
    · exact h
    · exact Nat.mul_pos (fp _) h
/-- all that the model adds up is the unlike ways, as often as there are turnings -/
theorem tn_ok {ts : List Tm} (h1 : 1 ≤ ts.length) (h5 : ts.length ≤ 5) (hw : ∀ u ∈ ts, tH u - tL u + 1 ≤ 6001) : (∀ n, wsK (TT2 ts) (lbs ts) dlt n (tnK (lbs ts)) = (smK (tnK (lbs ts)) : Int) * uw ts n ∧ 0 ≤ uw ts n ∧ uw ts n < 9000000000000000000 ∧ 0 ≤ wsK (TT2 ts) (lbs ts) dlt n (tnK (lbs ts)) ∧ wsK (TT2 ts) (lbs ts) dlt n (tnK (lbs ts)) < 9000000000000000000) ∧ 1 ≤ smK (tnK (lbs ts)) ∧ (tnK (lbs ts)).length ≤ 7 ∧ lnK (tnK (lbs ts)) = true := by
  have hc := chk_all h1 h5
  unfold chk at hc
  simp only [Bool.and_eq_true, decide_eq_true_eq, beq_iff_eq, List.isPerm_iff] at hc
  obtain ⟨⟨⟨⟨c1, c2⟩, c3⟩, c4⟩, c5⟩ := hc
  have hT : ∀ b, tH (TT2 ts b) - tL (TT2 ts b) + 1 ≤ 6001 := fun b => by
    unfold TT2
    rw [List.getD_eq_getElem?_getD]
    rcases hb : ts[b]? with _ | u
    · show (0 : Int) - 0 + 1 ≤ 6001
      omega
    · exact hw u (List.mem_of_getElem? hb)
  have hp : 1 ≤ smK (tnK (lbs ts)) := by
    rw [c2]
    exact FCC_pos _ _ _ (Nat.le_refl _)
  refine ⟨fun n => ?_, hp, c4, c5⟩
  have e : wsK (TT2 ts) (lbs ts) dlt n (tnK (lbs ts)) = (smK (tnK (lbs ts)) : Int) * uw ts n := by
    rw [← smL_fl, smL_perm c1, smL_so, RFF_uw ts h5, c2]
  have hb := wsK_bd hT (lbs ts) n (tnK (lbs ts))
  have hn : 0 ≤ uw ts n := by
    refine Int.not_lt.mp fun z => ?_
    have := Int.mul_le_mul_of_nonneg_left (show uw ts n ≤ -1 by omega) (Int.natCast_nonneg (smK (tnK (lbs ts))))
    omega
  have hm := Int.mul_le_mul_of_nonneg_right (show (1 : Int) ≤ (smK (tnK (lbs ts)) : Int) by omega) hn
  exact ⟨e, hn, by omega, hb.1, by omega⟩
