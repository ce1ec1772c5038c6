def RB : String := "PosterWall$Bill"
def TB : u_T := fun k => match k with
  | 0 => ("PosterWall$Bill", "word", "[I", true)
  | 1 => ("PosterWall$Bill", "day", "I", false)
  | 2 => ("PosterWall$Bill", "column", "I", false)
  | 3 => ("PosterWall$Bill", "colour", "I", false)
  | 4 => ("PosterWall$Bill", "thick", "I", false)
  | _ => ("PosterWall$Bill", "size", "I", false)
def RP : String := "PosterWall$Pile"
def TP : u_T := fun k => match k with
  | 0 => ("PosterWall$Pile", "heights", "[I", true)
  | 1 => ("PosterWall$Pile", "owners", "[I", true)
  | _ => ("PosterWall$Pile", "inks", "[I", true)
def RN : String := "PosterWall$Plan"
def TN : u_T := fun k => match k with
  | 0 => ("PosterWall$Plan", "bills", "[LPosterWall$Bill;", true)
  | 1 => ("PosterWall$Plan", "rains", "[I", true)
  | 2 => ("PosterWall$Plan", "law", "[I", true)
  | 3 => ("PosterWall$Plan", "tearDays", "[I", true)
  | 4 => ("PosterWall$Plan", "tearColumns", "[I", true)
  | 5 => ("PosterWall$Plan", "billCount", "I", false)
  | 6 => ("PosterWall$Plan", "rainCount", "I", false)
  | 7 => ("PosterWall$Plan", "lawCount", "I", false)
  | 8 => ("PosterWall$Plan", "tearCount", "I", false)
  | _ => ("PosterWall$Plan", "spared", "I", false)
def RR : String := "PosterWall$Row"
def TR : u_T := fun k => match k with
  | 0 => ("PosterWall$Row", "items", "[I", true)
  | 1 => ("PosterWall$Row", "lost", "Z", false)
  | 2 => ("PosterWall$Row", "form", "I", false)
  | _ => ("PosterWall$Row", "size", "I", false)
def RS : String := "PosterWall$Sights"
def TS : u_T := fun k => match k with
  | 0 => ("PosterWall$Sights", "days", "[I", true)
  | 1 => ("PosterWall$Sights", "columns", "[I", true)
  | 2 => ("PosterWall$Sights", "letters", "[I", true)
  | _ => ("PosterWall$Sights", "count", "I", false)
def RT : String := "PosterWall$Stage"
def TT : u_T := fun k => match k with
  | 0 => ("PosterWall$Stage", "plan", "LPosterWall$Plan;", true)
  | 1 => ("PosterWall$Stage", "pile", "LPosterWall$Pile;", true)
  | _ => ("PosterWall$Stage", "facts", "[I", true)
def RX : String := "PosterWall$Text"
def TX : u_T := fun k => match k with
  | 0 => ("PosterWall$Text", "bytes", "[I", true)
  | 1 => ("PosterWall$Text", "size", "I", false)
  | _ => ("PosterWall$Text", "fault", "I", false)
def RW : String := "PosterWall"
def TW : u_T := fun k => match k with
  | 0 => ("PosterWall", "texts", "[LPosterWall$Text;", true)
  | 1 => ("PosterWall", "plan", "LPosterWall$Plan;", true)
  | 2 => ("PosterWall", "told", "LPosterWall$Stage;", true)
  | 3 => ("PosterWall", "trial", "LPosterWall$Stage;", true)
  | 4 => ("PosterWall", "saved", "[LPosterWall$Pile;", true)
  | 5 => ("PosterWall", "sights", "LPosterWall$Sights;", true)
  | 6 => ("PosterWall", "rows", "[LPosterWall$Row;", true)
  | 7 => ("PosterWall", "otherRains", "[I", true)
  | 8 => ("PosterWall", "tally", "[I", true)
  | 9 => ("PosterWall", "found", "[I", true)
  | 10 => ("PosterWall", "chance", "[J", true)
  | 11 => ("PosterWall", "toldIsPlayed", "Z", false)
  | _ => ("PosterWall", "latestFinding", "I", false)
def RM : String := "PosterWallModel"
def TM : u_T := fun k => match k with
  | 0 => ("PosterWallModel", "forms", "[I", true)
  | 1 => ("PosterWallModel", "sizes", "[I", true)
  | 2 => ("PosterWallModel", "items", "[I", true)
  | 3 => ("PosterWallModel", "moved", "[I", true)
  | 4 => ("PosterWallModel", "latest", "I", false)
  | 5 => ("PosterWallModel", "bytes", "[I", true)
  | 6 => ("PosterWallModel", "typed", "[I", true)
  | 7 => ("PosterWallModel", "posters", "I", false)
  | 8 => ("PosterWallModel", "poster", "[I", true)
  | 9 => ("PosterWallModel", "letter", "[I", true)
  | 10 => ("PosterWallModel", "rains", "I", false)
  | 11 => ("PosterWallModel", "rain", "[I", true)
  | 12 => ("PosterWallModel", "law", "[I", true)
  | 13 => ("PosterWallModel", "tears", "I", false)
  | 14 => ("PosterWallModel", "tear", "[I", true)
  | 15 => ("PosterWallModel", "gone", "I", false)
  | 16 => ("PosterWallModel", "oddDay", "I", false)
  | 17 => ("PosterWallModel", "oddFirst", "I", false)
  | 18 => ("PosterWallModel", "oddSecond", "I", false)
  | 19 => ("PosterWallModel", "layers", "[I", true)
  | 20 => ("PosterWallModel", "lies", "[I", true)
  | 21 => ("PosterWallModel", "ink", "[I", true)
  | 22 => ("PosterWallModel", "kept", "[I", true)
  | 23 => ("PosterWallModel", "sights", "I", false)
  | 24 => ("PosterWallModel", "sight", "[I", true)
  | 25 => ("PosterWallModel", "alike", "[I", true)
  | 26 => ("PosterWallModel", "told", "[I", true)
  | _ => ("PosterWallModel", "drawn", "I", false)
abbrev wCl : List vw_C := [(RB, TB, 6), (RP, TP, 3), (RN, TN, 10), (RR, TR, 4), (RS, TS, 4), (RT, TT, 3), (RX, TX, 3), (RW, TW, 13), (RM, TM, 28)]
/-- how many of a family there are: objects by class 0 to 8, arrays from 9 on -/
def NI (c : Nat) : Nat := match c with
  | 0 => 8
  | 1 => 12
  | 2 => 1
  | 3 => 4
  | 4 => 1
  | 5 => 2
  | 6 => 3
  | 7 => 1
  | 8 => 1
  | 9 => 8
  | 10 => 12
  | 11 => 12
  | 12 => 12
  | 13 => 1
  | 14 => 1
  | 15 => 1
  | 16 => 1
  | 17 => 1
  | 18 => 4
  | 19 => 1
  | 20 => 1
  | 21 => 1
  | 22 => 2
  | 23 => 3
  | 24 => 1
  | 25 => 1
  | 26 => 1
  | 27 => 1
  | 28 => 1
  | 29 => 1
  | 30 => 1
  | 31 => 1
  | 32 => 1
  | 33 => 1
  | 34 => 1
  | 35 => 1
  | 36 => 1
  | 37 => 1
  | 38 => 1
  | 39 => 1
  | 40 => 1
  | 41 => 1
  | 42 => 1
  | 43 => 1
  | 44 => 1
  | 45 => 1
  | 46 => 1
  | 47 => 1
  | 48 => 1
  | _ => 0
def NF (c : Nat) : Nat := match c with
  | 0 => 6
  | 1 => 3
  | 2 => 10
  | 3 => 4
  | 4 => 4
  | 5 => 3
  | 6 => 3
  | 7 => 13
  | 8 => 28
  | _ => 0
/-- what a field of an object refers to: a family, and which of it (none: the same number) -/
def fk (c k : Nat) : Option (Nat × Option Nat) := match c, k with
  | 0, 0 => some (9, none)
  | 1, 0 => some (10, none)
  | 1, 1 => some (11, none)
  | 1, 2 => some (12, none)
  | 2, 0 => some (13, some 0)
  | 2, 1 => some (14, some 0)
  | 2, 2 => some (15, some 0)
  | 2, 3 => some (16, some 0)
  | 2, 4 => some (17, some 0)
  | 3, 0 => some (18, none)
  | 4, 0 => some (19, some 0)
  | 4, 1 => some (20, some 0)
  | 4, 2 => some (21, some 0)
  | 5, 0 => some (2, some 0)
  | 5, 1 => some (1, none)
  | 5, 2 => some (22, none)
  | 6, 0 => some (23, none)
  | 7, 0 => some (24, some 0)
  | 7, 1 => some (2, some 0)
  | 7, 2 => some (5, some 0)
  | 7, 3 => some (5, some 1)
  | 7, 4 => some (25, some 0)
  | 7, 5 => some (4, some 0)
  | 7, 6 => some (26, some 0)
  | 7, 7 => some (27, some 0)
  | 7, 8 => some (28, some 0)
  | 7, 9 => some (29, some 0)
  | 7, 10 => some (30, some 0)
  | 8, 0 => some (31, some 0)
  | 8, 1 => some (32, some 0)
  | 8, 2 => some (33, some 0)
  | 8, 3 => some (34, some 0)
  | 8, 5 => some (35, some 0)
  | 8, 6 => some (36, some 0)
  | 8, 8 => some (37, some 0)
  | 8, 9 => some (38, some 0)
  | 8, 11 => some (39, some 0)
  | 8, 12 => some (40, some 0)
  | 8, 14 => some (41, some 0)
  | 8, 19 => some (42, some 0)
  | 8, 20 => some (43, some 0)
  | 8, 21 => some (44, some 0)
  | 8, 22 => some (45, some 0)
  | 8, 24 => some (46, some 0)
  | 8, 25 => some (47, some 0)
  | 8, 26 => some (48, some 0)
  | _, _ => none
/-- an array of references: the family of its items, the number of the first, its length, the class of arrays -/
def ra (c : Nat) : Option (Nat × Nat × Nat × Nat) := match c with
  | 13 => some (0, 0, 8, 5)
  | 24 => some (6, 0, 3, 2)
  | 25 => some (1, 2, 10, 3)
  | 26 => some (3, 0, 4, 4)
  | _ => none
/-- the length of an array of ints -/
def ln (c i : Nat) : Nat := match c with
  | 9 => 4
  | 10 => 6
  | 11 => 48
  | 12 => 48
  | 14 => 20
  | 15 => 6
  | 16 => 10
  | 17 => 10
  | 18 => 60
  | 19 => 8
  | 20 => 8
  | 21 => 8
  | 22 => 720
  | 23 => (if i = 0 then 79 else if i = 1 then 20 else 6)
  | 27 => 20
  | 28 => 54
  | 29 => 3
  | 31 => 4
  | 32 => 4
  | 33 => 240
  | 34 => 60
  | 35 => 240
  | 36 => 3
  | 37 => 40
  | 38 => 32
  | 39 => 20
  | 40 => 6
  | 41 => 16
  | 42 => 6
  | 43 => 48
  | 44 => 48
  | 45 => 720
  | 46 => 24
  | 47 => 54
  | 48 => 20
  | _ => 0
/-- is it a family of int arrays -/
def ia (c : Nat) : Bool := match c with
  | 9 => true
  | 10 => true
  | 11 => true
  | 12 => true
  | 14 => true
  | 15 => true
  | 16 => true
  | 17 => true
  | 18 => true
  | 19 => true
  | 20 => true
  | 21 => true
  | 22 => true
  | 23 => true
  | 27 => true
  | 28 => true
  | 29 => true
  | 31 => true
  | 32 => true
  | 33 => true
  | 34 => true
  | 35 => true
  | 36 => true
  | 37 => true
  | 38 => true
  | 39 => true
  | 40 => true
  | 41 => true
  | 42 => true
  | 43 => true
  | 44 => true
  | 45 => true
  | 46 => true
  | 47 => true
  | 48 => true
  | _ => false
def CI : List (Nat × Nat) := [(0, 0), (0, 1), (0, 2), (0, 3), (0, 4), (0, 5), (0, 6), (0, 7), (1, 0), (1, 1), (1, 2), (1, 3), (1, 4), (1, 5), (1, 6), (1, 7), (1, 8), (1, 9), (1, 10), (1, 11), (2, 0), (3, 0), (3, 1), (3, 2), (3, 3), (4, 0), (5, 0), (5, 1), (6, 0), (6, 1), (6, 2), (7, 0), (8, 0), (9, 0), (9, 1), (9, 2), (9, 3), (9, 4), (9, 5), (9, 6), (9, 7), (10, 0), (10, 1), (10, 2), (10, 3), (10, 4), (10, 5), (10, 6), (10, 7), (10, 8), (10, 9), (10, 10), (10, 11), (11, 0), (11, 1), (11, 2), (11, 3), (11, 4), (11, 5), (11, 6), (11, 7), (11, 8), (11, 9), (11, 10), (11, 11), (12, 0), (12, 1), (12, 2), (12, 3), (12, 4), (12, 5), (12, 6), (12, 7), (12, 8), (12, 9), (12, 10), (12, 11), (13, 0), (14, 0), (15, 0), (16, 0), (17, 0), (18, 0), (18, 1), (18, 2), (18, 3), (19, 0), (20, 0), (21, 0), (22, 0), (22, 1), (23, 0), (23, 1), (23, 2), (24, 0), (25, 0), (26, 0), (27, 0), (28, 0), (29, 0), (30, 0), (31, 0), (32, 0), (33, 0), (34, 0), (35, 0), (36, 0), (37, 0), (38, 0), (39, 0), (40, 0), (41, 0), (42, 0), (43, 0), (44, 0), (45, 0), (46, 0), (47, 0), (48, 0)]
def off (c : Nat) : Nat := match c with
  | 0 => 0
  | 1 => 8
  | 2 => 20
  | 3 => 21
  | 4 => 25
  | 5 => 26
  | 6 => 28
  | 7 => 31
  | 8 => 32
  | 9 => 33
  | 10 => 41
  | 11 => 53
  | 12 => 65
  | 13 => 77
  | 14 => 78
  | 15 => 79
  | 16 => 80
  | 17 => 81
  | 18 => 82
  | 19 => 86
  | 20 => 87
  | 21 => 88
  | 22 => 89
  | 23 => 91
  | 24 => 94
  | 25 => 95
  | 26 => 96
  | 27 => 97
  | 28 => 98
  | 29 => 99
  | 30 => 100
  | 31 => 101
  | 32 => 102
  | 33 => 103
  | 34 => 104
  | 35 => 105
  | 36 => 106
  | 37 => 107
  | 38 => 108
  | 39 => 109
  | 40 => 110
  | 41 => 111
  | 42 => 112
  | 43 => 113
  | 44 => 114
  | 45 => 115
  | 46 => 116
  | 47 => 117
  | 48 => 118
  | _ => 0

abbrev MV : Type := Int32 ⊕ (Int64 ⊕ (Nat × Nat))
abbrev Mem : Type := (Nat → Nat → Nat → Int32) × (Nat → Int64)
/-- classes, slots, array classes, addresses -/
abbrev WX : Type := (Nat → ClassId) × (Nat → Nat → Nat) × (Nat → ClassId) × (Nat → Nat → Nat)
abbrev WX.D (X : WX) : va_G := (X.1, X.2.1)
abbrev WX.kA (X : WX) : Nat → ClassId := X.2.2.1
abbrev WX.ad (X : WX) : Nat → Nat → Nat := X.2.2.2
def vv (X : WX) (v : MV) : Value := match v with
  | .inl x => .int x
  | .inr (.inl x) => .long x
  | .inr (.inr q) => .ref (X.ad q.1 q.2)
def tyx (X : WX) : List (ClassId × FieldType) := [(X.kA 0, .int), (X.kA 1, .long), (X.kA 2, .object RX), (X.kA 3, .object RP), (X.kA 4, .object RR), (X.kA 5, .object RB)]
def fv (X : WX) (f : Nat → Int32) (c i k : Nat) : Value := match fk c k with
  | none => .int (f k)
  | some (c', none) => .ref (X.ad c' i)
  | some (c', some z) => .ref (X.ad c' z)
def cellF (X : WX) (f : Nat → Int32) (g : Nat → Int64) (c i : Nat) : va_E :=
  if c < 9 then .inr (c, (List.range (NF c)).map (fv X f c i))
  else if c = 30 then .inl (X.kA 1, 2, .inr (.inl g))
  else match ra c with
    | some (c', o, n, k) => .inl (X.kA k, n, .inr (.inr (.inr (.inr (fun j => some (X.ad c' (o + j)))))))
    | none => .inl (X.kA 0, ln c i, .inl f)
def wsx (X : WX) (u : Mem) : va_W := CI.map (fun q => (X.ad q.1 q.2, cellF X (u.1 q.1 q.2) u.2 q.1 q.2))
def AX (X : WX) : Nat → Prop := fun q => ∃ (k : Nat) (c : Nat × Nat), CI[k]? = some c ∧ q = X.ad c.1 c.2
def InjX (X : WX) : Prop := ∀ (a b : Nat) (p q : Nat × Nat), CI[a]? = some p → CI[b]? = some q → X.ad p.1 p.2 = X.ad q.1 q.2 → a = b
def rd (u : Mem) (c i j : Nat) : Int32 := u.1 c i j
def wr (u : Mem) (c i j : Nat) (v : Int32) : Mem := (fun a b k => if a = c ∧ b = i ∧ k = j then v else u.1 a b k, u.2)
def rdL (u : Mem) (j : Nat) : Int64 := u.2 j
def wrL (u : Mem) (j : Nat) (v : Int64) : Mem := (u.1, vp_updL u.2 j v)
theorem NI_lt {c i : Nat} (h : i < NI c) : c < 49 := by
  by_cases hc : c < 49
  · exact hc
  · exfalso
    unfold NI at h
    split at h <;> omega
theorem CI_at0 : ∀ c, c < 49 → ∀ i, i < NI c → CI[off c + i]? = some (c, i) := by decide +kernel
theorem CI_at {c i : Nat} (h : i < NI c) : CI[off c + i]? = some (c, i) := CI_at0 c (NI_lt h) i h
theorem CI_inv0 : ∀ a, a < 119 → ∀ q, CI[a]? = some q → off q.1 + q.2 = a ∧ q.2 < NI q.1 := by
  intro a ha q hq
  have h : ∀ a, a < 119 → (match CI[a]? with | some q => decide (off q.1 + q.2 = a ∧ q.2 < NI q.1) | none => true) = true := by decide +kernel
  have h1 := h a ha
  rw [hq] at h1
  exact of_decide_eq_true h1
theorem CI_len : CI.length = 119 := by decide +kernel
theorem CI_inv {a : Nat} {q : Nat × Nat} (h : CI[a]? = some q) : off q.1 + q.2 = a ∧ q.2 < NI q.1 :=
  CI_inv0 a (by rw [← CI_len]; exact (List.getElem?_eq_some_iff.mp h).1) q h
theorem wsx_at (X : WX) (u : Mem) {c i : Nat} (h : i < NI c) : (wsx X u)[off c + i]? = some (X.ad c i, cellF X (u.1 c i) u.2 c i) := by
  simp [wsx, List.getElem?_map, CI_at h]
theorem wsx_D {X : WX} (h : InjX X) (u : Mem) : va_D (AX X) (wsx X u) := by
  have at' : ∀ (i : Nat) (p : Nat × va_E), (wsx X u)[i]? = some p → ∃ q : Nat × Nat, CI[i]? = some q ∧ p.1 = X.ad q.1 q.2 := by
    intro i p hp
    rw [wsx, List.getElem?_map] at hp
    cases hq : CI[i]? with
    | none => rw [hq] at hp; cases hp
    | some q => rw [hq] at hp; cases hp; exact ⟨q, rfl, rfl⟩
  refine ⟨fun i j p q hp hq e => ?_, fun k q hq => ?_⟩
  · obtain ⟨a, h1, h2⟩ := at' i p hp
    obtain ⟨b, h3, h4⟩ := at' j q hq
    exact h i j a b h1 h3 (by rw [← h2, ← h4, e])
  · obtain ⟨a, h1, h2⟩ := at' k q hq
    exact ⟨k, a, h1, h2⟩
theorem fk_set (X : WX) (f : Nat → Int32) (c i k : Nat) (v : Int32) (hk : fk c k = none) : ((List.range (NF c)).map (fv X f c i)).set k (.int v) = (List.range (NF c)).map (fv X (upd f k v) c i) := by
  apply List.ext_getElem?
  intro j
  rw [List.getElem?_set]
  by_cases h : k = j
  · subst h
    rw [if_pos rfl]
    by_cases hl : k < NF c
    · rw [if_pos (by simpa using hl)]
      simp [List.getElem?_map, List.getElem?_range hl, fv, hk, upd]
    · rw [if_neg (by simpa using hl)]
      simp [List.getElem?_map, hl]
  · rw [if_neg h]
    by_cases hl : j < NF c
    · simp only [List.getElem?_map, List.getElem?_range hl, Option.map_some, fv]
      cases hj : fk c j with
      | none => simp [upd, Ne.symm h]
      | some q =>
        obtain ⟨c', _ | z⟩ := q <;> rfl
    · simp [List.getElem?_map, hl]
theorem wsx_set {X : WX} {u : Mem} {c i : Nat} (h : i < NI c) (u' : Mem) (e : va_E) (he : cellF X (u'.1 c i) u'.2 c i = e) (ho : ∀ a b, b < NI a → ¬ (a = c ∧ b = i) → cellF X (u'.1 a b) u'.2 a b = cellF X (u.1 a b) u.2 a b) : (wsx X u).set (off c + i) (X.ad c i, e) = wsx X u' := by
  apply List.ext_getElem?
  intro j
  rw [List.getElem?_set]
  by_cases hj : off c + i = j
  · subst hj
    rw [if_pos rfl, wsx_at X u' h, he]
    have := (List.getElem?_eq_some_iff.mp (wsx_at X u h)).1
    rw [if_pos this]
  · rw [if_neg hj]
    simp only [wsx, List.getElem?_map]
    cases hq : CI[j]? with
    | none => rfl
    | some q =>
      obtain ⟨q1, q2⟩ := CI_inv hq
      have hne : ¬ (q.1 = c ∧ q.2 = i) := fun z => hj (by rw [← z.1, ← z.2]; exact q1)
      simp only [Option.map_some]
      rw [ho q.1 q.2 q2 hne]
theorem wr_same (u : Mem) (c i j : Nat) (v : Int32) : (wr u c i j v).1 c i = upd (u.1 c i) j v := by
  funext k
  simp [wr, upd]
theorem wr_other (u : Mem) {c i : Nat} (j : Nat) (v : Int32) {a b : Nat} (h : ¬ (a = c ∧ b = i)) : (wr u c i j v).1 a b = u.1 a b := by
  funext k
  have : ¬ (a = c ∧ b = i ∧ k = j) := fun z => h ⟨z.1, z.2.1⟩
  simp [wr, this]
theorem wsx_wr {X : WX} {u : Mem} {c i j : Nat} {v : Int32} (h : i < NI c) (e : va_E) (he : cellF X (upd (u.1 c i) j v) u.2 c i = e) : (wsx X u).set (off c + i) (X.ad c i, e) = wsx X (wr u c i j v) := by
  refine wsx_set h _ e (by rw [wr_same]; exact he) fun a b _ hne => ?_
  rw [wr_other u j v hne]; rfl
theorem cellF_obj (X : WX) (f : Nat → Int32) (g : Nat → Int64) {c : Nat} (i : Nat) (h : c < 9) : cellF X f g c i = .inr (c, (List.range (NF c)).map (fv X f c i)) := by simp [cellF, h]
theorem ia_not : ∀ c, c < 49 → ia c = true → ¬ c < 9 ∧ c ≠ 30 ∧ ra c = none := by decide +kernel
theorem ia_lt {c : Nat} (h : ia c = true) : c < 49 := by
  by_cases hc : c < 49
  · exact hc
  · exfalso
    unfold ia at h
    split at h <;> first | omega | cases h
theorem cellF_int (X : WX) (f : Nat → Int32) (g : Nat → Int64) {c : Nat} (i : Nat) (h : ia c = true) : cellF X f g c i = .inl (X.kA 0, ln c i, .inl f) := by
  obtain ⟨h1, h2, h3⟩ := ia_not c (ia_lt h) h
  simp [cellF, h1, h2, h3]
theorem cellF_ch (X : WX) (f : Nat → Int32) (g : Nat → Int64) (i : Nat) : cellF X f g 30 i = .inl (X.kA 1, 2, .inr (.inl g)) := by simp [cellF]
theorem ra_not : ∀ c, c < 49 → (ra c).isSome = true → ¬ c < 9 ∧ c ≠ 30 := by decide +kernel
theorem ra_lt {c : Nat} {q : Nat × Nat × Nat × Nat} (h : ra c = some q) : c < 49 := by
  by_cases hc : c < 49
  · exact hc
  · exfalso
    unfold ra at h
    split at h <;> first | omega | cases h
theorem cellF_ref (X : WX) (f : Nat → Int32) (g : Nat → Int64) {c c' o n k : Nat} (i : Nat) (h : ra c = some (c', o, n, k)) : cellF X f g c i = .inl (X.kA k, n, .inr (.inr (.inr (.inr (fun j => some (X.ad c' (o + j))))))) := by
  obtain ⟨h1, h2⟩ := ra_not c (ra_lt h) (by rw [h]; rfl)
  simp [cellF, h1, h2, h]
/-- the words that a callee may be told: those of the tables that stay -/
def tg : List Cond := lw_tbl.filter goodWord
theorem tg_of {w : Cond} (h : w ∈ tg) : w ∈ lw_tbl := (List.mem_filter.mp h).1
theorem tg_goodIn : GoodIn lw_tbl tg := fun w h => ⟨tg_of h, good_of_word (List.mem_filter.mp h).2⟩
theorem tg_goodIn2 : GoodIn tg tg := fun w h => ⟨h, good_of_word (List.mem_filter.mp h).2⟩
def inT (k : Nat) (w : Cond) : Bool := decide (lw_tbl[k]? = some w) && goodWord w
theorem inT_mem {k : Nat} {w : Cond} (h : inT k w = true) : w ∈ tg := by
  simp only [inT, Bool.and_eq_true, decide_eq_true_eq] at h
  exact List.mem_filter.mpr ⟨List.mem_of_getElem? h.1, h.2⟩
def isNest : Cond → Bool
  | .methodLinkNest .. => true
  | _ => false
def nst : List Cond := lw_tbl.filter isNest
def NW (U : State) : Prop := ∀ w ∈ nst, va_Nw w U
def inN (k : Nat) (w : Cond) : Bool := decide (lw_tbl[k]? = some w) && isNest w
theorem inN_mem {k : Nat} {w : Cond} (h : inN k w = true) : w ∈ nst := by
  simp only [inN, Bool.and_eq_true, decide_eq_true_eq] at h
  exact List.mem_filter.mpr ⟨List.mem_of_getElem? h.1, h.2⟩
theorem NW.same {u U : State} (h : u.vm = U.vm) (hZ : NW u) : NW U := by
  intro w hw
  have hn := (List.mem_filter.mp hw).2
  refine va_Nw.same ?_ h (hZ w hw)
  cases w <;> first | rfl | cases hn
theorem NW.warm {s U : State} (hW : s.WarmedH U.vm) (hZ : NW s) : NW U := by
  intro w hw
  have hn := (List.mem_filter.mp hw).2
  have h1 := hZ w hw
  cases w <;> first | exact va_Nw.warmM hW h1 | cases hn
/-- the classes' rows in the tables -/
theorem wCl_in0 : ∀ r ∈ wCl, ∀ w ∈ u_ws r.1 r.2.1 r.2.2, w ∈ lw_tbl := by decide +kernel
theorem wCl_in1 : ∀ r ∈ wCl, ∀ w ∈ u_ws r.1 r.2.1 r.2.2, goodWord w = true := by decide +kernel
theorem wCl_in : ∀ r ∈ wCl, ∀ w ∈ u_ws r.1 r.2.1 r.2.2, w ∈ tg := fun r hr w hw => List.mem_filter.mpr ⟨wCl_in0 r hr w hw, wCl_in1 r hr w hw⟩
theorem wCl_nm : ∀ r ∈ wCl, ∀ a, a < r.2.2 → ∀ b, b < r.2.2 → a ≠ b → (r.2.1 a).2.1 ≠ (r.2.1 b).2.1 := by decide +kernel
def tyf (T : u_T) (k : Nat) : FieldType := (parseFieldDescriptor (T k).2.2.1).getD .int
theorem wCl_ty : ∀ r ∈ wCl, ∀ k, k < r.2.2 → parseFieldDescriptor (r.2.1 k).2.2.1 = some (tyf r.2.1 k) := by decide +kernel
theorem wCl_NF : ∀ c, c < 9 → ∃ C T, wCl[c]? = some (C, T, NF c) := by
  intro c hc
  match c, hc with
  | 0, _ => exact ⟨_, _, rfl⟩
  | 1, _ => exact ⟨_, _, rfl⟩
  | 2, _ => exact ⟨_, _, rfl⟩
  | 3, _ => exact ⟨_, _, rfl⟩
  | 4, _ => exact ⟨_, _, rfl⟩
  | 5, _ => exact ⟨_, _, rfl⟩
  | 6, _ => exact ⟨_, _, rfl⟩
  | 7, _ => exact ⟨_, _, rfl⟩
  | 8, _ => exact ⟨_, _, rfl⟩
