/-! sorting: by insertion (stable), by merging runs of keys; both come to the same -/
def insL {α : Type} (lt : α → α → Bool) (x : α) : List α → List α
  | [] => [x]
  | y :: l => if lt x y then x :: y :: l else y :: insL lt x l
def isoA {α : Type} (lt : α → α → Bool) : List α → List α → List α
  | acc, [] => acc
  | acc, x :: l => isoA lt (insL lt x acc) l
def isoL {α : Type} (lt : α → α → Bool) (l : List α) : List α := isoA lt [] l
theorem insL_perm {α : Type} (lt : α → α → Bool) (x : α) : ∀ l : List α, (insL lt x l).Perm (x :: l)
  | [] => List.Perm.refl _
  | y :: l => by
    unfold insL
    split
    · exact List.Perm.refl _
    · exact ((insL_perm lt x l).cons y).trans (List.Perm.swap x y l)
theorem isoA_perm {α : Type} (lt : α → α → Bool) : ∀ (l acc : List α), (isoA lt acc l).Perm (acc ++ l)
  | [], acc => by simp [isoA]
  | x :: l, acc => by
    unfold isoA
    refine (isoA_perm lt l _).trans (((insL_perm lt x acc).append_right l).trans ?_)
    exact (List.perm_middle (a := x) (l₁ := acc) (l₂ := l)).symm
theorem insL_len {α : Type} (lt : α → α → Bool) (x : α) (l : List α) : (insL lt x l).length = l.length + 1 := by rw [(insL_perm lt x l).length_eq, List.length_cons]
theorem isoL_perm {α : Type} (lt : α → α → Bool) (l : List α) : (isoL lt l).Perm l := by simpa [isoL] using isoA_perm lt l []
theorem isoL_len {α : Type} (lt : α → α → Bool) (l : List α) : (isoL lt l).length = l.length := (isoL_perm lt l).length_eq
theorem insL_map {α β : Type} (lt : α → α → Bool) (lt' : β → β → Bool) (f : β → α) (hf : ∀ a b, lt' a b = lt (f a) (f b)) (x : β) : ∀ l : List β, (insL lt' x l).map f = insL lt (f x) (l.map f)
  | [] => rfl
  | y :: l => by
    simp only [insL, List.map_cons, hf]
    split
    · rfl
    · rw [List.map_cons, insL_map lt lt' f hf x l]
theorem isoA_map {α β : Type} (lt : α → α → Bool) (lt' : β → β → Bool) (f : β → α) (hf : ∀ a b, lt' a b = lt (f a) (f b)) : ∀ l acc : List β, (isoA lt' acc l).map f = isoA lt (acc.map f) (l.map f)
  | [], acc => rfl
  | x :: l, acc => by
    simp only [isoA, List.map_cons]
    rw [isoA_map lt lt' f hf l, insL_map lt lt' f hf]
/-- insertion at the end of what is not greater -/
theorem insL_end {α : Type} {lt : α → α → Bool} {x : α} : ∀ {l : List α}, (∀ y ∈ l, lt x y = false) → insL lt x l = l ++ [x]
  | [], _ => rfl
  | y :: l, h => by
    rw [insL, h y (by simp), if_neg (by decide), insL_end (fun z hz => h z (by simp [hz]))]
    rfl
theorem insL_mid {α : Type} {lt : α → α → Bool} {x y : α} : ∀ {l m : List α}, (∀ z ∈ l, lt x z = false) → lt x y = true → insL lt x (l ++ y :: m) = l ++ x :: y :: m
  | [], m, _, hy => by rw [List.nil_append, insL, hy, if_pos rfl]; rfl
  | z :: l, m, h, hy => by
    rw [List.cons_append, insL, h z (by simp), if_neg (by decide), insL_mid (fun z' hz => h z' (by simp [hz])) hy]
    rfl
/-- a row that is in order stays -/
theorem isoA_id {α : Type} {lt : α → α → Bool} : ∀ {l acc : List α}, (acc ++ l).Pairwise (fun a b => lt b a = false) → isoA lt acc l = acc ++ l
  | [], acc, _ => by simp [isoA]
  | x :: l, acc, h => by
    have h1 := List.pairwise_append.1 h
    rw [isoA, insL_end (fun y hy => h1.2.2 y hy x (by simp)), isoA_id (by simpa using h)]
    simp
theorem isoL_id {α : Type} {lt : α → α → Bool} {l : List α} (h : l.Pairwise (fun a b => lt b a = false)) : isoL lt l = l := by
  have := isoA_id (lt := lt) (l := l) (acc := []) (by simpa using h)
  simpa [isoL] using this
/-- keys in order, no two alike -/
abbrev ascL (l : List Int) : Prop := l.Pairwise (fun a b => a < b)
def mgL (a b : List Int) : List Int := List.merge a b (fun x y => decide (x < y))
theorem mgL_perm (a b : List Int) : (mgL a b).Perm (a ++ b) := List.merge_perm_append _
theorem mgL_asc : ∀ {a b : List Int}, ascL a → ascL b → (∀ x ∈ a, ∀ y ∈ b, x ≠ y) → ascL (mgL a b)
  | [], b, _, hb, _ => by unfold mgL; simpa using hb
  | x :: a, [], ha, _, _ => by unfold mgL; simpa using ha
  | x :: a, y :: b, ha, hb, hd => by
    unfold mgL
    rw [List.merge]
    split
    · rename_i h
      have h := of_decide_eq_true h
      refine List.pairwise_cons.2 ⟨fun z hz => ?_, mgL_asc (List.pairwise_cons.1 ha).2 hb (fun u hu v hv => hd u (by simp [hu]) v hv)⟩
      have hz := (mgL_perm a (y :: b)).mem_iff.1 hz
      rcases List.mem_append.1 hz with hz | hz
      · exact (List.pairwise_cons.1 ha).1 z hz
      · rcases List.mem_cons.1 hz with rfl | hz
        · exact h
        · have := (List.pairwise_cons.1 hb).1 z hz
          omega
    · rename_i h
      have h : ¬ x < y := fun k => h (decide_eq_true k)
      have hne := hd x (by simp) y (by simp)
      refine List.pairwise_cons.2 ⟨fun z hz => ?_, mgL_asc ha (List.pairwise_cons.1 hb).2 (fun u hu v hv => hd u hu v (by simp [hv]))⟩
      have hz := (mgL_perm (x :: a) b).mem_iff.1 hz
      rcases List.mem_append.1 hz with hz | hz
      · rcases List.mem_cons.1 hz with rfl | hz
        · omega
        · have := (List.pairwise_cons.1 ha).1 z hz
          omega
      · exact (List.pairwise_cons.1 hb).1 z hz
  termination_by a b => a.length + b.length
theorem mgL_len (a b : List Int) : (mgL a b).length = a.length + b.length := by rw [(mgL_perm a b).length_eq, List.length_append]
/-- the run that goes on behind a, and the rest -/
def runL : Int → List Int → List Int × List Int
  | _, [] => ([], [])
  | a, b :: l => if a < b then (b :: (runL b l).1, (runL b l).2) else ([], b :: l)
theorem runL_app : ∀ (a : Int) (l : List Int), (runL a l).1 ++ (runL a l).2 = l
  | _, [] => rfl
  | a, b :: l => by
    unfold runL
    split
    · rw [List.cons_append, runL_app b l]
    · rfl
theorem runL_asc : ∀ (a : Int) (l : List Int), ascL (a :: (runL a l).1)
  | _, [] => by simp [runL]
  | a, b :: l => by
    unfold runL
    split
    · rename_i h
      have ih := runL_asc b l
      refine List.pairwise_cons.2 ⟨fun z hz => ?_, ih⟩
      rcases List.mem_cons.1 hz with rfl | hz
      · exact h
      · have := (List.pairwise_cons.1 ih).1 z hz
        omega
    · simp
/-- how often a key isn't less than the next -/
def desL : List Int → Nat
  | [] => 0
  | [_] => 0
  | a :: b :: l => (if a < b then 0 else 1) + desL (b :: l)
theorem desL_asc : ∀ {l : List Int}, desL l = 0 → ascL l
  | [], _ => List.Pairwise.nil
  | [a], _ => by simp
  | a :: b :: l, h => by
    unfold desL at h
    split at h
    · rename_i hab
      have ih := desL_asc (l := b :: l) (by omega)
      refine List.pairwise_cons.2 ⟨fun z hz => ?_, ih⟩
      rcases List.mem_cons.1 hz with rfl | hz
      · exact hab
      · have := (List.pairwise_cons.1 ih).1 z hz
        omega
    · omega
theorem asc_desL : ∀ {l : List Int}, ascL l → desL l = 0
  | [], _ => rfl
  | [a], _ => rfl
  | a :: b :: l, h => by
    have h1 := List.pairwise_cons.1 h
    rw [desL, if_pos (h1.1 b (by simp)), asc_desL h1.2]
/-- a run and what stands behind it -/
theorem desL_run : ∀ (a : Int) (l : List Int), desL (a :: l) = match (runL a l).2 with
    | [] => 0
    | b :: m => 1 + desL (b :: m)
  | _, [] => rfl
  | a, b :: l => by
    rw [desL, runL]
    split
    · rename_i h
      rw [Nat.zero_add, desL_run b l]
    · rfl
theorem desL_app : ∀ (a b : List Int), desL (a ++ b) ≤ desL a + 1 + desL b
  | [], b => by simp
  | [x], [] => by simp [desL]
  | [x], y :: b => by
    simp only [List.cons_append, List.nil_append, desL]
    split <;> omega
  | x :: y :: a, b => by
    have ih := desL_app (y :: a) b
    simp only [List.cons_append, desL] at ih ⊢
    split <;> omega
theorem runL_len (a : Int) (l : List Int) : (runL a l).1.length + (runL a l).2.length = l.length := by
  rw [← List.length_append, runL_app]
/-- one pass: neighbouring runs by twos -/
def pasL : Nat → List Int → List Int
  | 0, l => l
  | _ + 1, [] => []
  | n + 1, a :: l => match (runL a l).2 with
    | [] => a :: (runL a l).1
    | b :: m => mgL (a :: (runL a l).1) (b :: (runL b m).1) ++ pasL n (runL b m).2
theorem pasL_perm : ∀ (n : Nat) (l : List Int), (pasL n l).Perm l
  | 0, l => List.Perm.refl _
  | _ + 1, [] => List.Perm.refl _
  | n + 1, a :: l => by
    have e1 := runL_app a l
    unfold pasL
    split
    · rename_i h
      rw [h, List.append_nil] at e1
      rw [e1]
    · rename_i b m h
      have e2 := runL_app b m
      refine ((mgL_perm _ _).append (pasL_perm n _)).trans ?_
      rw [List.append_assoc, List.cons_append (a := b), e2, List.cons_append, ← h, e1]
theorem pasL_len (n : Nat) (l : List Int) : (pasL n l).length = l.length := (pasL_perm n l).length_eq
theorem pasL_des : ∀ (n : Nat) (l : List Int), l.length ≤ n → l.Nodup → desL (pasL n l) ≤ desL l - 1
  | 0, l, h, _ => by
    have : l = [] := List.length_eq_zero_iff.1 (by omega)
    subst this
    exact Nat.zero_le _
  | _ + 1, [], _, _ => Nat.zero_le _
  | n + 1, a :: l, hn, hd => by
    have e1 := runL_app a l
    have d1 := desL_run a l
    unfold pasL
    split
    · rename_i h
      rw [asc_desL (runL_asc a l)]
      exact Nat.zero_le _
    · rename_i b m h
      rw [h] at d1 e1
      have e2 := runL_app b m
      have d2 := desL_run b m
      have l1 := runL_len a l
      have l2 := runL_len b m
      have nd : ((a :: (runL a l).1) ++ (b :: m)).Nodup := by rw [List.cons_append, e1]; exact hd
      have nd2 : (b :: m).Nodup := (List.nodup_append.1 nd).2.1
      have nd3 : ((b :: (runL b m).1) ++ (runL b m).2).Nodup := by rw [List.cons_append, e2]; exact nd2
      have as := mgL_asc (runL_asc a l) (runL_asc b m) (fun x hx y hy hxy => by
        refine (List.nodup_append.1 nd).2.2 x hx y ?_ hxy
        rw [← e2, ← List.cons_append]
        exact List.mem_append_left _ hy)
      simp only [List.length_cons] at hn
      rw [h] at l1
      simp only [List.length_cons] at l1
      have ih := pasL_des n (runL b m).2 (by omega) (List.nodup_append.1 nd3).2.1
      simp only at d1
      cases hr : (runL b m).2 with
      | nil =>
        rw [hr] at d2
        have : pasL n ([] : List Int) = [] := by cases n <;> rfl
        rw [this, List.append_nil, asc_desL as]
        exact Nat.zero_le _
      | cons c k =>
        rw [hr] at d2 ih
        simp only at d2
        have := desL_app (mgL (a :: (runL a l).1) (b :: (runL b m).1)) (pasL n (c :: k))
        rw [asc_desL as] at this
        omega
/-- keys of events, by begin and place -/
def keyL : Int → List Evt → List Int
  | _, [] => []
  | i, e :: l => (e.1 * 1024 + i) :: keyL (i + 1) l
def idxL : Int → List Evt → List (Evt × Int)
  | _, [] => []
  | i, e :: l => (e, i) :: idxL (i + 1) l
abbrev ky (x : Evt × Int) : Int := x.1.1 * 1024 + x.2
def ltE (a b : Evt) : Bool := decide (a.1 < b.1)
abbrev sortE (l : List Evt) : List Evt := isoL ltE l
theorem idxL_fst : ∀ (i : Int) (l : List Evt), (idxL i l).map Prod.fst = l
  | _, [] => rfl
  | i, e :: l => by rw [idxL, List.map_cons, idxL_fst]
theorem idxL_key : ∀ (i : Int) (l : List Evt), (idxL i l).map ky = keyL i l
  | _, [] => rfl
  | i, e :: l => by rw [idxL, List.map_cons, idxL_key, keyL]
theorem idxL_mem : ∀ (i : Int) (l : List Evt) (x : Evt × Int), x ∈ idxL i l → i ≤ x.2 ∧ x.2 < i + l.length
  | _, [], _, h => by cases h
  | i, e :: l, x, h => by
    rcases List.mem_cons.1 h with rfl | h
    · simp only [List.length_cons]; omega
    · have := idxL_mem (i + 1) l x h
      simp only [List.length_cons]; omega
theorem insI_asc {x : Evt × Int} {l : List (Evt × Int)} (h : ascL (l.map ky)) (hx : ∀ y ∈ l, 0 ≤ y.2 ∧ y.2 < x.2) (h2 : 0 ≤ x.2 ∧ x.2 < 1024) : ascL ((insL (fun a b => ltE a.1 b.1) x l).map ky) := by
  induction l with
  | nil => simp [insL]
  | cons y l ih =>
    rw [List.map_cons] at h
    have h1 := List.pairwise_cons.1 h
    have hy := hx y (by simp)
    unfold insL
    split
    · rename_i c
      have c : x.1.1 < y.1.1 := of_decide_eq_true c
      rw [List.map_cons, List.map_cons]
      refine List.pairwise_cons.2 ⟨fun z hz => ?_, h⟩
      have h3 : ky x < ky y := by unfold ky; omega
      rcases List.mem_cons.1 hz with rfl | hz
      · exact h3
      · have := h1.1 z hz
        omega
    · rename_i c
      have c : ¬ x.1.1 < y.1.1 := fun k => c (decide_eq_true k)
      rw [List.map_cons]
      refine List.pairwise_cons.2 ⟨fun z hz => ?_, ih h1.2 (fun y' hy' => hx y' (by simp [hy']))⟩
      have hz := (((insL_perm (fun a b : Evt × Int => ltE a.1 b.1) x l).map ky).mem_iff).1 hz
      rw [List.map_cons] at hz
      rcases List.mem_cons.1 hz with rfl | hz
      · unfold ky; omega
      · exact h1.1 z hz
theorem isoI_asc : ∀ (l : List Evt) (i : Int) (acc : List (Evt × Int)), 0 ≤ i → i + l.length ≤ 1024 → ascL (acc.map ky) → (∀ y ∈ acc, 0 ≤ y.2 ∧ y.2 < i) → ascL ((isoA (fun a b => ltE a.1 b.1) acc (idxL i l)).map ky)
  | [], i, acc, _, _, h, _ => h
  | e :: l, i, acc, h0, h1, h, hy => by
    simp only [List.length_cons] at h1
    refine isoI_asc l (i + 1) _ (by omega) (by omega) (insI_asc (x := (e, i)) h hy ⟨h0, by show i < 1024; omega⟩) (fun y hy' => ?_)
    have := (insL_perm (fun a b : Evt × Int => ltE a.1 b.1) (e, i) acc).mem_iff.1 hy'
    rcases List.mem_cons.1 this with rfl | this
    · exact ⟨h0, by show i < i + 1; omega⟩
    · have := hy y this
      omega
/-- the keys in order are those of the events in order -/
theorem keys_sorted {l : List Evt} {ks : List Int} (hl : l.length ≤ 1024) (hp : ks.Perm (keyL 0 l)) (ha : ascL ks) : ks = (isoL (fun a b : Evt × Int => ltE a.1 b.1) (idxL 0 l)).map ky := by
  refine List.Perm.eq_of_pairwise (le := fun a b => a < b) (fun a b _ _ h1 h2 => by omega) ha (isoI_asc l 0 [] (Int.le_refl _) (by omega) (by simp) (by simp)) ?_
  refine hp.trans ?_
  rw [← idxL_key]
  exact ((isoL_perm _ _).map ky).symm
theorem iso_fst (l : List Evt) : (isoL (fun a b : Evt × Int => ltE a.1 b.1) (idxL 0 l)).map Prod.fst = sortE l := by
  unfold sortE isoL
  rw [isoA_map ltE (fun a b : Evt × Int => ltE a.1 b.1) Prod.fst (fun _ _ => rfl), idxL_fst]
  rfl
theorem keyL_nodup : ∀ (i : Int) (l : List Evt), 0 ≤ i → i + l.length ≤ 1024 → (keyL i l).Nodup ∧ ∀ k ∈ keyL i l, i ≤ k % 1024
  | _, [], _, _ => by simp [keyL]
  | i, e :: l, h0, h1 => by
    simp only [List.length_cons] at h1
    obtain ⟨a, b⟩ := keyL_nodup (i + 1) l (by omega) (by omega)
    refine ⟨List.nodup_cons.2 ⟨fun h => ?_, a⟩, fun k hk => ?_⟩
    · have := b _ h
      omega
    · rcases List.mem_cons.1 hk with rfl | hk
      · omega
      · have := b k hk
        omega
theorem keyL_len : ∀ (i : Int) (l : List Evt), (keyL i l).length = l.length
  | _, [] => rfl
  | i, e :: l => by rw [keyL, List.length_cons, keyL_len, List.length_cons]
theorem keyL_b : ∀ (i : Int) (l : List Evt) (M : Int), 0 ≤ i → i + l.length ≤ 1024 → (∀ e ∈ l, 0 ≤ e.1 ∧ e.1 ≤ M) → ∀ k ∈ keyL i l, 0 ≤ k ∧ k < (M + 1) * 1024
  | _, [], _, _, _, _, k, hk => by cases hk
  | i, e :: l, M, h0, h1, hb, k, hk => by
    simp only [List.length_cons] at h1
    rcases List.mem_cons.1 hk with rfl | hk
    · have := hb e (by simp)
      omega
    · exact keyL_b (i + 1) l M (by omega) (by omega) (fun e he => hb e (by simp [he])) k hk
