/-! patterns of the reference: what their tables hold; the row of a pattern as a list -/
abbrev gr (τ : St) (p : Int) : Int := el τ 63 p
abbrev cw (τ : St) (p : Int) : Int := el τ 62 p
abbrev rc (τ : St) (p : Int) : Int := el τ 61 p
abbrev wk (τ : St) (p : Int) : Int := el τ 60 p
abbrev kd (τ : St) (p i : Int) : Int := el τ 58 (el τ 65 p + i)
/-- kids: which, weight, how often -/
abbrev Kid : Type := Int × Int × Int
def kidF (τ : St) : Int → Nat → List Kid
  | _, 0 => []
  | a, n + 1 => (el τ 58 a, el τ 57 a % 32, el τ 57 a / 32) :: kidF τ (a + 1) n
def kl (τ : St) (p : Int) : List Kid := kidF τ (el τ 65 p) (el τ 64 p).toNat
def wS : List Kid → Int
  | [] => 0
  | k :: l => k.2.1 * k.2.2 + wS l
def crS (τ : St) : List Kid → Int
  | [] => 0
  | k :: l => k.2.2 * cw τ k.1 + crS τ l
/-- a value that the class has, too -/
def VO (v : Vl) : Prop := ∃ w, RV w v.2.2.1 (v.2.2.2 / 2) v
def repL (L : List Evt) (t sh w : Int) : Nat → Int → List Evt
  | 0, _ => []
  | n + 1, a => mv t (a * sh) L ++ repL L t sh w n (a + w)
def seqL (τ : St) (R : Int → List Evt) (sh : Int) : List Kid → Int → List Evt
  | [], _ => []
  | k :: l, a => repL (R k.1) (k.2.1 * (sh / gr τ k.1)) sh k.2.1 k.2.2.toNat a ++ seqL τ R sh l (a + k.2.1 * k.2.2)
def allL (τ : St) (R : Int → List Evt) (G : Int) : List Kid → List Evt
  | [] => []
  | k :: l => mv (G / gr τ k.1) 0 (R k.1) ++ allL τ R G l
def katL : List Kid → Int → Int
  | [], _ => 0
  | [k], _ => k.1
  | k :: l, v => if v < k.2.1 * k.2.2 then k.1 else katL l (v - k.2.1 * k.2.2)
def polL (τ : St) (R : Int → Int → List Evt) (l : List Kid) (c n sh : Int) : Nat → Int → List Evt
  | 0, _ => []
  | m + 1, k => mv (sh / gr τ (katL l ((c * n + k) % wS l))) (k * sh) (R (katL l ((c * n + k) % wS l)) ((c * n + k) / wS l)) ++ polL τ R l c n sh m (k + 1)
def sprL (L : List Evt) (a n t g : Int) : Nat → Int → List Evt
  | 0, _ => []
  | m + 1, k => (if (k + t) % n * a % n < a then mv 1 (k * g) L else []) ++ sprL L a n t g m (k + 1)
/-- rows j, j + 1, .. of one kid, each stretched and moved, and clipped -/
def rwsL (R : Int → List Evt) (k : Int) (b : Int → Int) (G : Int) : Nat → Int → List Evt
  | 0, _ => []
  | m + 1, j => (mv k (b j) (R j)).filter (inW 0 G) ++ rwsL R k b G m (j + 1)
def plyE (n G o : Int) (e : Evt) : Nat → Int → List Evt
  | 0, _ => []
  | m + 1, k => (if 0 ≤ e.1 * n + o + k * e.2.1 ∧ e.1 * n + o + k * e.2.1 < G then [(e.1 * n + o + k * e.2.1, e.2.1, e.2.2)] else []) ++ plyE n G o e m (k + 1)
def plyR (n G o : Int) : List Evt → List Evt
  | [] => []
  | e :: l => plyE n G o e n.toNat 0 ++ plyR n G o l
def plyL (R : Int → List Evt) (n G c : Int) : Nat → Int → List Evt
  | 0, _ => []
  | m + 1, j => plyR n G ((j - c) * G) (R j) ++ plyL R n G c m (j + 1)
def revL (G : Int) (l : List Evt) : List Evt := l.map (fun e => (G - min G (e.1 + e.2.1), min G (e.1 + e.2.1) - e.1, e.2.2))
def rtl (n : Nat) (l : List Evt) : List Evt := l.drop (n % l.length) ++ l.take (n % l.length)
def rotL (n : Nat) (l : List Evt) : List Evt := List.zipWith (fun e (f : Evt) => (e.1, e.2.1, f.2.2)) l (rtl n l)
/-- the fate of an event that begins at x -/
def dice (s c x g q : Int) : Int :=
  bnd (gC x g) (fun d => bnd (s + 9973 * c + 7919 * Int.tdiv x d + 104729 * Int.tdiv g d + q) (fun v =>
    bnd (ixor v (iushr v 15)) (fun v => bnd (v * 668265263) (fun v => bnd (ixor v (iushr v 13)) (fun v => Int.tmod (iand v 1048575) 1000)))))
def louE (v : Vl) : Bool := decide (v.2.2.2 ≠ 2 ∨ v.2.2.1 ≠ 0)
/-- the last of a row that sounds at a time -/
def lstL (P : Evt → Bool) : List Evt → Option Vl
  | [] => none
  | e :: l => match lstL P l with
    | some v => some v
    | none => if P e then some e.2.2 else none
/-- what sounds at t in row c, else in rows before -/
def fndL (R : Int → List Evt) (g h : Int) (t : Int) (c : Int) : Nat → Int → Option Vl
  | 0, _ => none
  | m + 1, j => match lstL (fun e => decide ((e.1 + (j - c) * h) * g ≤ t ∧ t < (e.1 + e.2.1 + (j - c) * h) * g)) (R j) with
    | some v => some v
    | none => fndL R g h t c m (j - 1)
def joiV (K a : Int) (v s : Vl) : Vl :=
  if K = 23 then s else if K = 24 then v
  else if a = 35 then (if s.2.2.2 = 2 then v.1 else s.1, if s.2.2.2 = 2 then v.2.1 else s.2.1, if s.2.2.2 = 1 then v.2.2.1 else s.2.2.1, if v.2.2.2 = s.2.2.2 then v.2.2.2 else 3)
  else if 2 ≤ v.2.2.2 ∧ 2 ≤ s.2.2.2 then (v.1, v.2.1, w32 (if a = 43 then v.2.2.1 + s.2.2.1 else if a = 45 then v.2.2.1 - s.2.2.1 else v.2.2.1 * s.2.2.1), v.2.2.2)
  else v
def meeL (K a : Int) (f : Int → Option Vl) : List Evt → List Evt
  | [] => []
  | e :: l => (match f e.1 with
    | some s => if K = 24 ∧ louE s = false then [] else [(e.1, e.2.1, joiV K a e.2.2 s)]
    | none => if K = 25 then [e] else []) ++ meeL K a f l
def metL (τ : St) (R : Int → Int → List Evt) (p c m o : Int) : List Evt :=
  meeL (el τ 70 p) (el τ 69 p) (fun x => fndL (R o) (gr τ p) (gr τ o) (x * gr τ o) c (rc τ o + 1).toNat c) (if el τ 70 p = 23 then (R m c).filter (fun e => louE e.2.2) else R m c)
abbrev spU (τ : St) (p : Int) : Int := el τ 67 p * el τ 68 p - el τ 69 p * el τ 66 p
abbrev spD (τ : St) (p : Int) : Int := el τ 68 p * el τ 66 p
def rowK (τ : St) (R : Int → Int → List Evt) (p c : Int) : List Evt :=
  let K := el τ 70 p
  let a := el τ 69 p
  let b := el τ 68 p
  let G := gr τ p
  let q := kd τ p 0
  let q1 := kd τ p 1
  if K = 1 then [(0, 1, a, b, 0, 1)]
  else if K = 2 then [(0, 1, 0, 0, a, 2)]
  else if K = 3 then []
  else if K = 4 then seqL τ (fun q => R q c) (G / wS (kl τ p)) (kl τ p) 0
  else if K = 5 then sortE (allL τ (fun q => R q c) G (kl τ p))
  else if K = 6 then mv (G / gr τ (katL (kl τ p) (c % wS (kl τ p)))) 0 (R (katL (kl τ p) (c % wS (kl τ p))) (c / wS (kl τ p)))
  else if K = 7 then polL τ R (kl τ p) c a (G / a) a.toNat 0
  else if K = 8 then sprL (R q c) a b (el τ 67 p) (gr τ q) b.toNat 0
  else if K = 9 then rwsL (R q) b (fun j => (j * b - c * a) * gr τ q) G (((c + 1) * a - 1) / b - c * a / b + 1).toNat (c * a / b)
  else if K = 10 then rwsL (fun j => R q (c + j)) (G / gr τ q) (fun j => j * G - a * (G / b)) G (if b = 1 then 1 else 2) (a / b)
  else if K = 11 then rwsL (fun j => R q (c + j)) (G / gr τ q) (fun j => j * G - -a * (G / b)) G (if b = 1 then 1 else 2) (-a / b)
  else if K = 12 then sortE (revL G (R q c))
  else if K = 13 then (if c % a = 0 then mv (G / gr τ q1) 0 (R q1 c) else mv (G / gr τ q) 0 (R q c))
  else if K = 14 then (if c % a < b then mv (G / gr τ q) 0 (R q c) else mv (G / gr τ q1) 0 (R q1 c))
  else if K = 15 then sortE ((mv (G / gr τ q) 0 (R q c)).filter (fun e => !decide (c % a * G ≤ e.1 * a ∧ e.1 * a < (c % a + 1) * G)) ++ (mv (G / gr τ q1) 0 (R q1 c)).filter (fun e => decide (c % a * G ≤ e.1 * a ∧ e.1 * a < (c % a + 1) * G)))
  else if K = 16 then sortE ((mv (G / gr τ q) 0 (R q c)).filter (fun e => !decide (a * G ≤ e.1 * b ∧ e.1 * el τ 66 p < el τ 67 p * G)) ++ (mv (G / gr τ q1) 0 (R q1 c)).filter (fun e => decide (a * G ≤ e.1 * b ∧ e.1 * el τ 66 p < el τ 67 p * G)))
  else if K = 17 then rwsL (fun j => R q (c + j)) (G / gr τ q) (fun j => j * G - c % a * (G / a)) G (if c % a = 0 then 1 else 2) 0
  else if K = 18 then sortE (plyL (R q) a G c (rc τ q + 1).toNat (c - rc τ q))
  else if K = 19 then rotL a.toNat (R q c)
  else if K = 20 then mv (spU τ p / gC (spU τ p) (spD τ p) * (G / (spD τ p / gC (spU τ p) (spD τ p) * gr τ q))) (a * (G / b)) (R q c)
  else if K = 21 then (R q c).filter (fun e => !decide (dice (fl τ 95 0) c e.1 G (1000003 * b) < a))
  else if K = 22 then (R q c).filter (fun e => decide (dice (fl τ 95 0) c e.1 G (1000003 * b) < a))
  else if K = 24 then metL τ R p c q1 q
  else metL τ R p c q q1
def rowL (τ : St) : Nat → Int → Int → List Evt
  | 0, _, _ => []
  | d + 1, p, c => rowK τ (rowL τ d) p c
/-- what working out may want of room, over the crowd -/
def phi (w : Int) : Int := 200 + (if w ≤ 800 then w else if w ≤ 1600 then 1200 else if w ≤ 3200 then 1600 else if w ≤ 6400 then 2000 else if w ≤ 12800 then 2400 else if w ≤ 25600 then 2800 else 3200)
theorem phi_mono {a b : Int} (h : a ≤ b) (h2 : b ≤ 50000) : phi a ≤ phi b := by
  unfold phi
  split <;> split <;> (repeat' split) <;> omega
theorem phi_lo {a : Int} (h : 0 ≤ a) : 200 ≤ phi a ∧ phi a ≤ 3400 := by
  unfold phi
  split <;> (repeat' split) <;> omega
theorem phi_two {w v c : Int} (h0 : 0 ≤ w) (h : 2 * w ≤ v) (hv : v ≤ 50000) (hc : c ≤ 400) (hw : c ≤ w) : c + phi w ≤ phi v := by
  have h1 : c + phi w ≤ phi (2 * w) := by
    unfold phi
    split <;> split <;> (repeat' split) <;> omega
  have := phi_mono h hv
  omega
