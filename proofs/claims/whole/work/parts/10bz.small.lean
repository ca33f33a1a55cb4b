theorem ok_setI {S : St} {b k a c : Nat} {v : Int32} (h : ok S a c) : ok (setI S b k v) a c := h
theorem ok_setP {S : St} {b k a c : Nat} {v : Option Nat} (h : ok S a c) : ok (setP S b k v) a c := h
theorem ok_setJ {S : St} {b k a c : Nat} {v : Int64} (h : ok S a c) : ok (setJ S b k v) a c := h
theorem ok_setE {S : St} {b k a c : Nat} {v : UInt64} (h : ok S a c) : ok (setE S b k v) a c := h
theorem ok_setPs {S : St} {b a c : Nat} {f : Nat → Option Nat} (h : ok S a c) : ok (setPs S b f) a c := h
