/-! LIKE TERMS: TURNINGS, PURE -/
abbrev Mo : Type := List (Nat × Nat)
abbrev KL : Type := List (List Nat × Nat)
/-! the model's turnings; p: which terms are like -/
def cwk (r : List Nat) : Nat → Nat → List Nat → Nat → Nat × List Nat
  | 0, _, seen, n => (n, seen)
  | f + 1, o, seen, n => if o ∈ seen then (n, seen) else cwk r f (r.getD o 0) (o :: seen) (n + 1)
def lnA (r : List Nat) : Nat → Nat → List Nat → List Nat → List Nat
  | 0, _, _, L => L
  | c + 1, k, seen, L => lnA r c (k + 1) (cwk r 6 k seen 0).2 (L.set k (cwk r 6 k seen 0).1)
def swp (p : List Nat) (a b : Nat) (L : List Nat) : List Nat := if p.getD a 9 = p.getD b 9 ∧ L.getD a 0 < L.getD b 0 then (L.set a (L.getD b 0)).set b (L.getD a 0) else L
def soB (p : List Nat) (a : Nat) : Nat → Nat → List Nat → List Nat
  | 0, _, L => L
  | c + 1, b, L => soB p a c (b + 1) (swp p a b L)
def soA (p : List Nat) : Nat → Nat → List Nat → List Nat
  | 0, _, L => L
  | c + 1, a, L => soA p c (a + 1) (soB p a (p.length - (a + 1)) (a + 1) L)
def knd (r p : List Nat) : List Nat := soA p p.length 0 (lnA r p.length 0 [] [0, 0, 0, 0, 0])
def addK (L : List Nat) : KL → KL
  | [] => [(L, 1)]
  | q :: K => if q.1 = L then (q.1, q.2 + 1) :: K else q :: addK L K
def tn (p : List Nat) : Nat → List Nat → KL → KL
  | 0, r, K => addK (knd r p) K
  | f + 1, r, K => (List.range' 0 p.length).foldl (fun K o => if o ∈ r ∨ ¬ p.getD r.length 9 = p.getD o 9 then K else tn p f (r ++ [o]) K) K
def tnK (p : List Nat) : KL := tn p p.length [] []
/-! what they stand for -/
def inM (q : Nat × Nat) : Mo → Mo
  | [] => [q]
  | x :: l => if q.1 * 8 + q.2 ≤ x.1 * 8 + x.2 then q :: x :: l else x :: inM q l
def soM : Mo → Mo
  | [] => []
  | q :: l => inM q (soM l)
/-- the rounds of one kind, the last term first -/
def mnB : List Nat → List Nat → Mo → Mo
  | b :: p, c :: L, a => mnB p L (if c = 0 then a else (b, c) :: a)
  | _, _, a => a
def rpL {α : Type} : Nat → List α → List α
  | 0, _ => []
  | k + 1, L => L ++ rpL k L
def ZF : Nat → List (List Nat)
  | 0 => [[]]
  | 1 => (ZF 0).map (1 :: ·)
  | 2 => (ZF 1).map (1 :: ·) ++ (ZF 0).map (2 :: ·)
  | 3 => (ZF 2).map (1 :: ·) ++ (rpL 2 ((ZF 1).map (2 :: ·)) ++ rpL 2 ((ZF 0).map (3 :: ·)))
  | 4 => (ZF 3).map (1 :: ·) ++ (rpL 3 ((ZF 2).map (2 :: ·)) ++ (rpL 6 ((ZF 1).map (3 :: ·)) ++ rpL 6 ((ZF 0).map (4 :: ·))))
  | 5 => (ZF 4).map (1 :: ·) ++ (rpL 4 ((ZF 3).map (2 :: ·)) ++ (rpL 12 ((ZF 2).map (3 :: ·)) ++ (rpL 24 ((ZF 1).map (4 :: ·)) ++ rpL 24 ((ZF 0).map (5 :: ·)))))
  | _ + 6 => []
def fcT : Nat → Nat
  | 0 => 1
  | k + 1 => (k + 1) * fcT k
def RFF : List Nat → List Nat → List Mo → List Mo
  | _, [], M => M
  | pre, b :: bs, M => RFF (b :: pre) bs (if b ∈ pre then M else (ZF (bs.count b + 1)).flatMap fun cs => M.map fun mo => cs.map (fun c => (b, c)) ++ mo)
def FCC : List Nat → List Nat → Nat → Nat
  | _, [], a => a
  | pre, b :: bs, a => FCC (b :: pre) bs (if b ∈ pre then a else fcT (bs.count b + 1) * a)
def flK (p : List Nat) : KL → List Mo
  | [] => []
  | q :: K => rpL q.2 [soM (mnB p q.1 [])] ++ flK p K
def smK : KL → Nat
  | [] => 0
  | q :: K => q.2 + smK K
def bdK (p : List Nat) : KL → Nat
  | [] => 0
  | q :: K => q.2 * 6001 ^ (mnB p q.1 []).length + bdK p K
def lnK : KL → Bool
  | [] => true
  | q :: K => q.1.length == 5 && decide (q.1.sum ≤ 5) && lnK K
def chk (p : List Nat) : Bool := (flK p (tnK p)).isPerm ((RFF [] p [[]]).map soM) && (smK (tnK p) == FCC [] p 1) && decide (bdK p (tnK p) < 9000000000000000000) && decide ((tnK p).length ≤ 7) && lnK (tnK p)
theorem chk_1 : chk [0] = true := by decide +kernel
theorem chk_2 : ∀ a : Fin 2, chk [0, a] = true := by decide +kernel
theorem chk_3 : ∀ (a : Fin 2) (b : Fin 3), chk [0, a, b] = true := by decide +kernel
theorem chk_4 : ∀ (a : Fin 2) (b : Fin 3) (c : Fin 4), chk [0, a, b, c] = true := by decide +kernel
theorem chk_5 : ∀ (a : Fin 2) (b : Fin 3) (c : Fin 4) (d : Fin 5), chk [0, a, b, c, d] = true := by decide +kernel
