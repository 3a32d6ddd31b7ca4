def q_hpA : q_H := [(5, [.ref 1, .ref 7, .ref 13, .ref 63, .ref 69, .int 0, .ref 119, .ref 121, .ref 122, .ref 123, .ref 124]),
  (2, [.int 14, .int 0, .int (-4), .int 0, .int 0, .int 1, .int 0, .ref 2, .ref 3, .ref 4, .ref 5, .ref 6]),
  (10, [.int 0, .int 0, .int 0, .int 0, .int 0, .int 0, .int 0, .int 0]),
  (10, [.int 0, .int 0, .int 0, .int 0, .int 0, .int 0, .int 0, .int 0]),
  (10, [.int 0, .int 0, .int 0, .int 0, .int 0, .int 0, .int 0, .int 0]),
  (10, [.int 0, .int 0, .int 0, .int 0, .int 0, .int 0, .int 0, .int 0]),
  (10, [.int 0, .int 0, .int 0, .int 0, .int 0, .int 0, .int 0, .int 0]),
  (2, [.int 14, .int 0, .int (-4), .int 0, .int 0, .int 1, .int 0, .ref 8, .ref 9, .ref 10, .ref 11, .ref 12]),
  (10, [.int 0, .int 0, .int 0, .int 0, .int 0, .int 0, .int 0, .int 0]),
  (10, [.int 0, .int 0, .int 0, .int 0, .int 0, .int 0, .int 0, .int 0]),
  (10, [.int 0, .int 0, .int 0, .int 0, .int 0, .int 0, .int 0, .int 0]),
  (10, [.int 0, .int 0, .int 0, .int 0, .int 0, .int 0, .int 0, .int 0]),
  (10, [.int 0, .int 0, .int 0, .int 0, .int 0, .int 0, .int 0, .int 0]),
  (0, [.ref 14, .int 0, .int 0]),
  (13, [.ref 15, .ref 21, .ref 27, .ref 33, .ref 39, .ref 45, .ref 51, .ref 57]),
  (2, [.int 14, .int 0, .int (-4), .int 0, .int 0, .int 1, .int 0, .ref 16, .ref 17, .ref 18, .ref 19, .ref 20]),
  (10, [.int 0, .int 0, .int 0, .int 0, .int 0, .int 0, .int 0, .int 0]),
  (10, [.int 0, .int 0, .int 0, .int 0, .int 0, .int 0, .int 0, .int 0]),
  (10, [.int 0, .int 0, .int 0, .int 0, .int 0, .int 0, .int 0, .int 0]),
  (10, [.int 0, .int 0, .int 0, .int 0, .int 0, .int 0, .int 0, .int 0]),
  (10, [.int 0, .int 0, .int 0, .int 0, .int 0, .int 0, .int 0, .int 0]),
  (2, [.int 14, .int 0, .int (-4), .int 0, .int 0, .int 1, .int 0, .ref 22, .ref 23, .ref 24, .ref 25, .ref 26]),
  (10, [.int 0, .int 0, .int 0, .int 0, .int 0, .int 0, .int 0, .int 0]),
  (10, [.int 0, .int 0, .int 0, .int 0, .int 0, .int 0, .int 0, .int 0]),
  (10, [.int 0, .int 0, .int 0, .int 0, .int 0, .int 0, .int 0, .int 0]),
  (10, [.int 0, .int 0, .int 0, .int 0, .int 0, .int 0, .int 0, .int 0]),
  (10, [.int 0, .int 0, .int 0, .int 0, .int 0, .int 0, .int 0, .int 0]),
  (2, [.int 14, .int 0, .int (-4), .int 0, .int 0, .int 1, .int 0, .ref 28, .ref 29, .ref 30, .ref 31, .ref 32]),
  (10, [.int 0, .int 0, .int 0, .int 0, .int 0, .int 0, .int 0, .int 0]),
  (10, [.int 0, .int 0, .int 0, .int 0, .int 0, .int 0, .int 0, .int 0]),
  (10, [.int 0, .int 0, .int 0, .int 0, .int 0, .int 0, .int 0, .int 0]),
  (10, [.int 0, .int 0, .int 0, .int 0, .int 0, .int 0, .int 0, .int 0]),
  (10, [.int 0, .int 0, .int 0, .int 0, .int 0, .int 0, .int 0, .int 0]),
  (2, [.int 14, .int 0, .int (-4), .int 0, .int 0, .int 1, .int 0, .ref 34, .ref 35, .ref 36, .ref 37, .ref 38]),
  (10, [.int 0, .int 0, .int 0, .int 0, .int 0, .int 0, .int 0, .int 0]),
  (10, [.int 0, .int 0, .int 0, .int 0, .int 0, .int 0, .int 0, .int 0]),
  (10, [.int 0, .int 0, .int 0, .int 0, .int 0, .int 0, .int 0, .int 0]),
  (10, [.int 0, .int 0, .int 0, .int 0, .int 0, .int 0, .int 0, .int 0]),
  (10, [.int 0, .int 0, .int 0, .int 0, .int 0, .int 0, .int 0, .int 0]),
  (2, [.int 14, .int 0, .int (-4), .int 0, .int 0, .int 1, .int 0, .ref 40, .ref 41, .ref 42, .ref 43, .ref 44]),
  (10, [.int 0, .int 0, .int 0, .int 0, .int 0, .int 0, .int 0, .int 0]),
  (10, [.int 0, .int 0, .int 0, .int 0, .int 0, .int 0, .int 0, .int 0]),
  (10, [.int 0, .int 0, .int 0, .int 0, .int 0, .int 0, .int 0, .int 0]),
  (10, [.int 0, .int 0, .int 0, .int 0, .int 0, .int 0, .int 0, .int 0]),
  (10, [.int 0, .int 0, .int 0, .int 0, .int 0, .int 0, .int 0, .int 0]),
  (2, [.int 14, .int 0, .int (-4), .int 0, .int 0, .int 1, .int 0, .ref 46, .ref 47, .ref 48, .ref 49, .ref 50]),
  (10, [.int 0, .int 0, .int 0, .int 0, .int 0, .int 0, .int 0, .int 0]),
  (10, [.int 0, .int 0, .int 0, .int 0, .int 0, .int 0, .int 0, .int 0]),
  (10, [.int 0, .int 0, .int 0, .int 0, .int 0, .int 0, .int 0, .int 0]),
  (10, [.int 0, .int 0, .int 0, .int 0, .int 0, .int 0, .int 0, .int 0]),
  (10, [.int 0, .int 0, .int 0, .int 0, .int 0, .int 0, .int 0, .int 0]),
  (2, [.int 14, .int 0, .int (-4), .int 0, .int 0, .int 1, .int 0, .ref 52, .ref 53, .ref 54, .ref 55, .ref 56]),
  (10, [.int 0, .int 0, .int 0, .int 0, .int 0, .int 0, .int 0, .int 0]),
  (10, [.int 0, .int 0, .int 0, .int 0, .int 0, .int 0, .int 0, .int 0]),
  (10, [.int 0, .int 0, .int 0, .int 0, .int 0, .int 0, .int 0, .int 0]),
  (10, [.int 0, .int 0, .int 0, .int 0, .int 0, .int 0, .int 0, .int 0]),
  (10, [.int 0, .int 0, .int 0, .int 0, .int 0, .int 0, .int 0, .int 0]),
  (2, [.int 14, .int 0, .int (-4), .int 0, .int 0, .int 1, .int 0, .ref 58, .ref 59, .ref 60, .ref 61, .ref 62]),
  (10, [.int 0, .int 0, .int 0, .int 0, .int 0, .int 0, .int 0, .int 0]),
  (10, [.int 0, .int 0, .int 0, .int 0, .int 0, .int 0, .int 0, .int 0]),
  (10, [.int 0, .int 0, .int 0, .int 0, .int 0, .int 0, .int 0, .int 0]),
  (10, [.int 0, .int 0, .int 0, .int 0, .int 0, .int 0, .int 0, .int 0]),
  (10, [.int 0, .int 0, .int 0, .int 0, .int 0, .int 0, .int 0, .int 0]),
  (2, [.int 14, .int 0, .int (-4), .int 0, .int 0, .int 1, .int 0, .ref 64, .ref 65, .ref 66, .ref 67, .ref 68]),
  (10, [.int 0, .int 0, .int 0, .int 0, .int 0, .int 0, .int 0, .int 0]),
  (10, [.int 0, .int 0, .int 0, .int 0, .int 0, .int 0, .int 0, .int 0]),
  (10, [.int 0, .int 0, .int 0, .int 0, .int 0, .int 0, .int 0, .int 0]),
  (10, [.int 0, .int 0, .int 0, .int 0, .int 0, .int 0, .int 0, .int 0]),
  (10, [.int 0, .int 0, .int 0, .int 0, .int 0, .int 0, .int 0, .int 0]),
  (0, [.ref 70, .int 0, .int 0]),
  (13, [.ref 71, .ref 77, .ref 83, .ref 89, .ref 95, .ref 101, .ref 107, .ref 113]),
  (2, [.int 14, .int 0, .int (-4), .int 0, .int 0, .int 1, .int 0, .ref 72, .ref 73, .ref 74, .ref 75, .ref 76]),
  (10, [.int 0, .int 0, .int 0, .int 0, .int 0, .int 0, .int 0, .int 0]),
  (10, [.int 0, .int 0, .int 0, .int 0, .int 0, .int 0, .int 0, .int 0]),
  (10, [.int 0, .int 0, .int 0, .int 0, .int 0, .int 0, .int 0, .int 0]),
  (10, [.int 0, .int 0, .int 0, .int 0, .int 0, .int 0, .int 0, .int 0]),
  (10, [.int 0, .int 0, .int 0, .int 0, .int 0, .int 0, .int 0, .int 0]),
  (2, [.int 14, .int 0, .int (-4), .int 0, .int 0, .int 1, .int 0, .ref 78, .ref 79, .ref 80, .ref 81, .ref 82]),
  (10, [.int 0, .int 0, .int 0, .int 0, .int 0, .int 0, .int 0, .int 0]),
  (10, [.int 0, .int 0, .int 0, .int 0, .int 0, .int 0, .int 0, .int 0]),
  (10, [.int 0, .int 0, .int 0, .int 0, .int 0, .int 0, .int 0, .int 0]),
  (10, [.int 0, .int 0, .int 0, .int 0, .int 0, .int 0, .int 0, .int 0]),
  (10, [.int 0, .int 0, .int 0, .int 0, .int 0, .int 0, .int 0, .int 0]),
  (2, [.int 14, .int 0, .int (-4), .int 0, .int 0, .int 1, .int 0, .ref 84, .ref 85, .ref 86, .ref 87, .ref 88]),
  (10, [.int 0, .int 0, .int 0, .int 0, .int 0, .int 0, .int 0, .int 0]),
  (10, [.int 0, .int 0, .int 0, .int 0, .int 0, .int 0, .int 0, .int 0]),
  (10, [.int 0, .int 0, .int 0, .int 0, .int 0, .int 0, .int 0, .int 0]),
  (10, [.int 0, .int 0, .int 0, .int 0, .int 0, .int 0, .int 0, .int 0]),
  (10, [.int 0, .int 0, .int 0, .int 0, .int 0, .int 0, .int 0, .int 0]),
  (2, [.int 14, .int 0, .int (-4), .int 0, .int 0, .int 1, .int 0, .ref 90, .ref 91, .ref 92, .ref 93, .ref 94]),
  (10, [.int 0, .int 0, .int 0, .int 0, .int 0, .int 0, .int 0, .int 0]),
  (10, [.int 0, .int 0, .int 0, .int 0, .int 0, .int 0, .int 0, .int 0]),
  (10, [.int 0, .int 0, .int 0, .int 0, .int 0, .int 0, .int 0, .int 0]),
  (10, [.int 0, .int 0, .int 0, .int 0, .int 0, .int 0, .int 0, .int 0]),
  (10, [.int 0, .int 0, .int 0, .int 0, .int 0, .int 0, .int 0, .int 0]),
  (2, [.int 14, .int 0, .int (-4), .int 0, .int 0, .int 1, .int 0, .ref 96, .ref 97, .ref 98, .ref 99, .ref 100]),
  (10, [.int 0, .int 0, .int 0, .int 0, .int 0, .int 0, .int 0, .int 0]),
  (10, [.int 0, .int 0, .int 0, .int 0, .int 0, .int 0, .int 0, .int 0]),
  (10, [.int 0, .int 0, .int 0, .int 0, .int 0, .int 0, .int 0, .int 0]),
  (10, [.int 0, .int 0, .int 0, .int 0, .int 0, .int 0, .int 0, .int 0]),
  (10, [.int 0, .int 0, .int 0, .int 0, .int 0, .int 0, .int 0, .int 0]),
  (2, [.int 14, .int 0, .int (-4), .int 0, .int 0, .int 1, .int 0, .ref 102, .ref 103, .ref 104, .ref 105, .ref 106]),
  (10, [.int 0, .int 0, .int 0, .int 0, .int 0, .int 0, .int 0, .int 0]),
  (10, [.int 0, .int 0, .int 0, .int 0, .int 0, .int 0, .int 0, .int 0]),
  (10, [.int 0, .int 0, .int 0, .int 0, .int 0, .int 0, .int 0, .int 0]),
  (10, [.int 0, .int 0, .int 0, .int 0, .int 0, .int 0, .int 0, .int 0]),
  (10, [.int 0, .int 0, .int 0, .int 0, .int 0, .int 0, .int 0, .int 0]),
  (2, [.int 14, .int 0, .int (-4), .int 0, .int 0, .int 1, .int 0, .ref 108, .ref 109, .ref 110, .ref 111, .ref 112]),
  (10, [.int 0, .int 0, .int 0, .int 0, .int 0, .int 0, .int 0, .int 0]),
  (10, [.int 0, .int 0, .int 0, .int 0, .int 0, .int 0, .int 0, .int 0]),
  (10, [.int 0, .int 0, .int 0, .int 0, .int 0, .int 0, .int 0, .int 0]),
  (10, [.int 0, .int 0, .int 0, .int 0, .int 0, .int 0, .int 0, .int 0]),
  (10, [.int 0, .int 0, .int 0, .int 0, .int 0, .int 0, .int 0, .int 0]),
  (2, [.int 14, .int 0, .int (-4), .int 0, .int 0, .int 1, .int 0, .ref 114, .ref 115, .ref 116, .ref 117, .ref 118]),
  (10, [.int 0, .int 0, .int 0, .int 0, .int 0, .int 0, .int 0, .int 0]),
  (10, [.int 0, .int 0, .int 0, .int 0, .int 0, .int 0, .int 0, .int 0]),
  (10, [.int 0, .int 0, .int 0, .int 0, .int 0, .int 0, .int 0, .int 0]),
  (10, [.int 0, .int 0, .int 0, .int 0, .int 0, .int 0, .int 0, .int 0]),
  (10, [.int 0, .int 0, .int 0, .int 0, .int 0, .int 0, .int 0, .int 0]),
  (4, [.ref 120, .int 0, .int 0, .int 0]),
  (12, [.int 0, .int 0, .int 0, .int 0, .int 0, .int 0, .int 0, .int 0, .int 0, .int 0, .int 0, .int 0, .int 0, .int 0, .int 0, .int 0, .int 0, .int 0, .int 0, .int 0, .int 0, .int 0, .int 0, .int 0, .int 0, .int 0, .int 0, .int 0, .int 0, .int 0, .int 0, .int 0, .int 0, .int 0, .int 0, .int 0, .int 0, .int 0, .int 0, .int 0, .int 0, .int 0, .int 0, .int 0, .int 0, .int 0, .int 0, .int 0, .int 0, .int 0, .int 0, .int 0, .int 0, .int 0, .int 0, .int 0, .int 0, .int 0, .int 0, .int 0, .int 0, .int 0, .int 0, .int 0, .int 0, .int 0, .int 0, .int 0, .int 0, .int 0, .int 0, .int 0, .int 0, .int 0, .int 0, .int 0, .int 0, .int 0, .int 0, .int 0, .int 0, .int 0, .int 0, .int 0, .int 0, .int 0, .int 0, .int 0, .int 0, .int 0]),
  (14, [.ref 125, .ref 127, .ref 129, .ref 131]),
  (1, [.int 0, .int 0, .int 0, .int 0, .int 1]),
  (10, [.int 0, .int 0, .int 0, .int 0]),
  (10, [.int 0, .int 0, .int 0, .int 0]),
  (3, [.int 0, .int 0, .int 0, .ref 126]),
  (11, [.long 0, .long 0, .long 0, .long 0, .long 0, .long 0, .long 0, .long 0, .long 0, .long 0, .long 0, .long 0, .long 0, .long 0, .long 0, .long 0, .long 0, .long 0, .long 0, .long 0, .long 0, .long 0, .long 0, .long 0]),
  (3, [.int 0, .int 0, .int 0, .ref 128]),
  (11, [.long 0, .long 0, .long 0, .long 0, .long 0, .long 0, .long 0, .long 0, .long 0, .long 0, .long 0, .long 0, .long 0, .long 0, .long 0, .long 0, .long 0, .long 0, .long 0, .long 0, .long 0, .long 0, .long 0, .long 0]),
  (3, [.int 0, .int 0, .int 0, .ref 130]),
  (11, [.long 0, .long 0, .long 0, .long 0, .long 0, .long 0, .long 0, .long 0, .long 0, .long 0, .long 0, .long 0, .long 0, .long 0, .long 0, .long 0, .long 0, .long 0, .long 0, .long 0, .long 0, .long 0, .long 0, .long 0]),
  (3, [.int 0, .int 0, .int 0, .ref 132]),
  (11, [.long 0, .long 0, .long 0, .long 0, .long 0, .long 0, .long 0, .long 0, .long 0, .long 0, .long 0, .long 0, .long 0, .long 0, .long 0, .long 0, .long 0, .long 0, .long 0, .long 0, .long 0, .long 0, .long 0, .long 0])]
def q_hpB : q_H := [(6, [.ref 134, .ref 135, .int 0, .int 0, .ref 136, .int 0, .ref 137, .int 0, .ref 138, .int 0, .int 0, .int 0, .int 0, .int 0, .ref 139, .ref 140, .ref 141, .int (-1), .ref 142, .ref 143, .ref 144, .ref 145]),
  (10, [.int 0, .int 14, .int 0, .int (-4), .int 0, .int 0, .int 1, .int 0, .int 0, .int 0, .int 0, .int 0, .int 0, .int 0, .int 0, .int 0, .int 0, .int 0, .int 0, .int 0, .int 0, .int 0, .int 0, .int 0, .int 0, .int 0, .int 0, .int 0, .int 0, .int 0, .int 0, .int 0, .int 0, .int 0, .int 0, .int 0, .int 0, .int 0, .int 0, .int 0, .int 0, .int 0, .int 0, .int 0, .int 0, .int 0, .int 0]),
  (10, [.int 0, .int 0, .int 0, .int 0, .int 0, .int 0, .int 0, .int 0, .int 0, .int 0, .int 0, .int 0, .int 0, .int 0, .int 0, .int 0, .int 0, .int 0, .int 0, .int 0, .int 0, .int 0, .int 0, .int 0, .int 0, .int 0, .int 0, .int 0, .int 0, .int 0, .int 0, .int 0, .int 0, .int 0, .int 0, .int 0, .int 0, .int 0, .int 0, .int 0, .int 0, .int 0, .int 0, .int 0, .int 0, .int 0, .int 0, .int 0, .int 0, .int 0, .int 0, .int 0, .int 0, .int 0, .int 0, .int 0, .int 0, .int 0, .int 0, .int 0, .int 0, .int 0, .int 0, .int 0, .int 0, .int 0, .int 0, .int 0, .int 0, .int 0, .int 0, .int 0, .int 0, .int 0, .int 0, .int 0, .int 0, .int 0, .int 0, .int 0, .int 0, .int 0, .int 0, .int 0, .int 0, .int 0, .int 0, .int 0, .int 0, .int 0]),
  (10, [.int 0, .int 0, .int 0, .int 0, .int 0, .int 0, .int 0, .int 0, .int 0, .int 0, .int 0, .int 0, .int 0, .int 0, .int 0, .int 0, .int 0, .int 0, .int 0, .int 0, .int 0, .int 0, .int 0, .int 0, .int 0, .int 0, .int 0, .int 0, .int 0, .int 0, .int 0, .int 0]),
  (10, [.int 0, .int 0, .int 0, .int 0, .int 0, .int 0, .int 0, .int 0, .int 0, .int 0, .int 0, .int 0, .int 0, .int 0, .int 0, .int 0, .int 0, .int 0, .int 0, .int 0, .int 0, .int 0, .int 0, .int 0, .int 0, .int 0, .int 0, .int 0, .int 0, .int 0, .int 0, .int 0, .int 0, .int 0, .int 0, .int 0, .int 0, .int 0, .int 0, .int 0, .int 0, .int 0, .int 0, .int 0, .int 0, .int 0, .int 0, .int 0, .int 0, .int 0, .int 0, .int 0, .int 0, .int 0, .int 0, .int 0, .int 0, .int 0, .int 0, .int 0, .int 0, .int 0, .int 0, .int 0, .int 0, .int 0, .int 0, .int 0, .int 0, .int 0, .int 0, .int 0, .int 0, .int 0, .int 0, .int 0, .int 0, .int 0, .int 0, .int 0, .int 0, .int 0, .int 0, .int 0, .int 0, .int 0, .int 0, .int 0, .int 0, .int 0, .int 0, .int 0, .int 0, .int 0, .int 0, .int 0, .int 0, .int 0, .int 0, .int 0, .int 0, .int 0, .int 0, .int 0, .int 0, .int 0, .int 0, .int 0, .int 0, .int 0, .int 0, .int 0, .int 0, .int 0, .int 0, .int 0, .int 0, .int 0, .int 0, .int 0, .int 0, .int 0, .int 0, .int 0, .int 0, .int 0, .int 0, .int 0, .int 0, .int 0, .int 0, .int 0, .int 0, .int 0, .int 0, .int 0, .int 0, .int 0, .int 0, .int 0, .int 0, .int 0, .int 0, .int 0, .int 0, .int 0, .int 0, .int 0, .int 0, .int 0, .int 0, .int 0, .int 0, .int 0, .int 0, .int 0, .int 0, .int 0, .int 0, .int 0, .int 0, .int 0, .int 0, .int 0, .int 0, .int 0, .int 0, .int 0, .int 0, .int 0, .int 0, .int 0, .int 0, .int 0, .int 0, .int 0, .int 0, .int 0, .int 0, .int 0, .int 0, .int 0, .int 0, .int 0, .int 0, .int 0, .int 0, .int 0, .int 0, .int 0, .int 0, .int 0, .int 0, .int 0, .int 0, .int 0, .int 0, .int 0, .int 0, .int 0, .int 0, .int 0, .int 0, .int 0, .int 0, .int 0, .int 0, .int 0, .int 0, .int 0, .int 0, .int 0, .int 0, .int 0, .int 0, .int 0, .int 0, .int 0, .int 0, .int 0, .int 0, .int 0, .int 0, .int 0, .int 0, .int 0, .int 0, .int 0, .int 0, .int 0, .int 0, .int 0, .int 0, .int 0, .int 0, .int 0, .int 0, .int 0, .int 0, .int 0, .int 0, .int 0, .int 0, .int 0, .int 0, .int 0, .int 0, .int 0, .int 0, .int 0, .int 0, .int 0, .int 0, .int 0, .int 0, .int 0, .int 0, .int 0, .int 0, .int 0, .int 0, .int 0, .int 0, .int 0, .int 0, .int 0, .int 0, .int 0, .int 0, .int 0, .int 0, .int 0, .int 0, .int 0, .int 0, .int 0, .int 0, .int 0, .int 0, .int 0, .int 0, .int 0, .int 0, .int 0, .int 0, .int 0, .int 0, .int 0, .int 0, .int 0, .int 0, .int 0, .int 0, .int 0, .int 0, .int 0, .int 0, .int 0, .int 0, .int 0, .int 0, .int 0, .int 0, .int 0, .int 0, .int 0, .int 0, .int 0, .int 0, .int 0, .int 0, .int 0, .int 0, .int 0, .int 0, .int 0, .int 0, .int 0, .int 0, .int 0, .int 0, .int 0, .int 0, .int 0, .int 0, .int 0, .int 0, .int 0, .int 0, .int 0, .int 0, .int 0, .int 0, .int 0, .int 0, .int 0, .int 0, .int 0, .int 0, .int 0, .int 0, .int 0, .int 0, .int 0, .int 0, .int 0, .int 0, .int 0, .int 0, .int 0, .int 0, .int 0, .int 0, .int 0, .int 0, .int 0, .int 0, .int 0, .int 0, .int 0, .int 0, .int 0, .int 0, .int 0, .int 0, .int 0, .int 0, .int 0, .int 0, .int 0, .int 0, .int 0, .int 0, .int 0, .int 0, .int 0]),
  (10, [.int 0, .int 0, .int 0, .int 0, .int 0, .int 0, .int 0, .int 0, .int 0, .int 0, .int 0, .int 0, .int 0, .int 0, .int 0, .int 0, .int 0, .int 0, .int 0, .int 0, .int 0, .int 0, .int 0, .int 0, .int 0, .int 0, .int 0, .int 0, .int 0, .int 0, .int 0, .int 0, .int 0, .int 0, .int 0, .int 0, .int 0, .int 0, .int 0, .int 0, .int 0, .int 0, .int 0, .int 0, .int 0, .int 0, .int 0]),
  (10, [.int 0, .int 0, .int 0, .int 0, .int 0, .int 0, .int 0, .int 0, .int 0, .int 0, .int 0, .int 0, .int 0, .int 0, .int 0, .int 0, .int 0, .int 0, .int 0, .int 0, .int 0, .int 0, .int 0, .int 0, .int 0, .int 0, .int 0, .int 0, .int 0, .int 0, .int 0, .int 0, .int 0, .int 0, .int 0, .int 0, .int 0, .int 0, .int 0, .int 0, .int 0, .int 0, .int 0, .int 0, .int 0, .int 0, .int 0, .int 0, .int 0, .int 0, .int 0, .int 0, .int 0, .int 0, .int 0, .int 0, .int 0, .int 0, .int 0, .int 0, .int 0, .int 0, .int 0, .int 0, .int 0, .int 0, .int 0, .int 0, .int 0, .int 0, .int 0, .int 0, .int 0, .int 0, .int 0, .int 0, .int 0, .int 0, .int 0, .int 0, .int 0, .int 0, .int 0, .int 0, .int 0, .int 0, .int 0, .int 0, .int 0, .int 0, .int 0, .int 0, .int 0, .int 0, .int 0, .int 0, .int 0, .int 0, .int 0, .int 0, .int 0, .int 0, .int 0, .int 0, .int 0, .int 0, .int 0, .int 0, .int 0, .int 0, .int 0, .int 0, .int 0, .int 0, .int 0, .int 0, .int 0, .int 0, .int 0, .int 0, .int 0, .int 0, .int 0, .int 0, .int 0, .int 0, .int 0, .int 0, .int 0, .int 0, .int 0, .int 0, .int 0, .int 0, .int 0, .int 0, .int 0, .int 0, .int 0, .int 0, .int 0, .int 0, .int 0, .int 0, .int 0, .int 0, .int 0, .int 0, .int 0, .int 0, .int 0, .int 0, .int 0, .int 0, .int 0, .int 0, .int 0, .int 0, .int 0, .int 0, .int 0, .int 0, .int 0, .int 0, .int 0, .int 0, .int 0, .int 0, .int 0, .int 0, .int 0, .int 0, .int 0, .int 0, .int 0, .int 0, .int 0, .int 0, .int 0, .int 0, .int 0, .int 0, .int 0, .int 0, .int 0, .int 0, .int 0, .int 0, .int 0, .int 0, .int 0, .int 0, .int 0, .int 0, .int 0, .int 0, .int 0, .int 0, .int 0, .int 0, .int 0, .int 0, .int 0, .int 0, .int 0, .int 0, .int 0, .int 0, .int 0, .int 0, .int 0, .int 0, .int 0, .int 0, .int 0, .int 0, .int 0, .int 0, .int 0, .int 0, .int 0, .int 0, .int 0, .int 0, .int 0, .int 0, .int 0, .int 0, .int 0, .int 0, .int 0, .int 0, .int 0, .int 0, .int 0, .int 0, .int 0, .int 0, .int 0, .int 0, .int 0, .int 0, .int 0]),
  (10, [.int 0, .int 0, .int 0, .int 0, .int 0, .int 0, .int 0, .int 0, .int 0, .int 0, .int 0, .int 0, .int 0, .int 0, .int 0, .int 0, .int 0, .int 0, .int 0, .int 0, .int 0, .int 0, .int 0, .int 0, .int 0, .int 0, .int 0, .int 0, .int 0, .int 0, .int 0, .int 0, .int 0, .int 0, .int 0, .int 0, .int 0, .int 0, .int 0, .int 0, .int 0, .int 0, .int 0, .int 0, .int 0, .int 0, .int 0]),
  (10, [.int 0, .int 0, .int 0, .int 0, .int 0, .int 0, .int 0, .int 0, .int 0, .int 0, .int 0, .int 0, .int 0, .int 0, .int 0, .int 0, .int 0, .int 0, .int 0, .int 0, .int 0, .int 0, .int 0, .int 0, .int 0, .int 0, .int 0, .int 0, .int 0, .int 0, .int 0, .int 0, .int 0, .int 0, .int 0, .int 0, .int 0, .int 0, .int 0, .int 0, .int 0, .int 0, .int 0, .int 0, .int 0, .int 0, .int 0, .int 0, .int 0, .int 0, .int 0, .int 0, .int 0, .int 0, .int 0, .int 0, .int 0, .int 0, .int 0, .int 0, .int 0, .int 0, .int 0, .int 0, .int 0, .int 0, .int 0, .int 0, .int 0, .int 0, .int 0, .int 0, .int 0, .int 0, .int 0, .int 0, .int 0, .int 0, .int 0, .int 0, .int 0, .int 0, .int 0, .int 0, .int 0, .int 0, .int 0, .int 0, .int 0, .int 0, .int 0, .int 0, .int 0, .int 0, .int 0, .int 0, .int 0, .int 0, .int 0, .int 0, .int 0, .int 0, .int 0, .int 0, .int 0, .int 0, .int 0, .int 0, .int 0, .int 0, .int 0, .int 0, .int 0, .int 0, .int 0, .int 0, .int 0, .int 0, .int 0, .int 0, .int 0, .int 0, .int 0, .int 0, .int 0, .int 0, .int 0, .int 0, .int 0, .int 0, .int 0, .int 0, .int 0, .int 0, .int 0, .int 0, .int 0, .int 0, .int 0, .int 0, .int 0, .int 0, .int 0, .int 0, .int 0, .int 0, .int 0, .int 0, .int 0, .int 0, .int 0, .int 0, .int 0, .int 0, .int 0, .int 0, .int 0, .int 0, .int 0, .int 0, .int 0, .int 0, .int 0, .int 0, .int 0, .int 0, .int 0, .int 0, .int 0, .int 0, .int 0, .int 0, .int 0, .int 0, .int 0, .int 0, .int 0, .int 0, .int 0, .int 0, .int 0, .int 0, .int 0, .int 0, .int 0, .int 0, .int 0, .int 0, .int 0, .int 0, .int 0, .int 0, .int 0, .int 0, .int 0, .int 0, .int 0, .int 0, .int 0, .int 0, .int 0, .int 0, .int 0, .int 0, .int 0, .int 0, .int 0, .int 0, .int 0, .int 0, .int 0, .int 0, .int 0, .int 0, .int 0, .int 0, .int 0, .int 0, .int 0, .int 0, .int 0, .int 0, .int 0, .int 0, .int 0, .int 0, .int 0, .int 0, .int 0, .int 0, .int 0, .int 0, .int 0, .int 0, .int 0, .int 0, .int 0, .int 0, .int 0, .int 0, .int 0, .int 0, .int 0, .int 0, .int 0, .int 0, .int 0, .int 0, .int 0, .int 0, .int 0, .int 0, .int 0, .int 0, .int 0, .int 0, .int 0, .int 0, .int 0, .int 0, .int 0, .int 0, .int 0, .int 0, .int 0, .int 0, .int 0, .int 0, .int 0, .int 0, .int 0, .int 0, .int 0, .int 0, .int 0, .int 0, .int 0, .int 0, .int 0, .int 0, .int 0, .int 0, .int 0, .int 0, .int 0, .int 0, .int 0, .int 0, .int 0, .int 0, .int 0, .int 0, .int 0, .int 0, .int 0, .int 0, .int 0, .int 0, .int 0, .int 0, .int 0, .int 0, .int 0, .int 0, .int 0, .int 0, .int 0, .int 0, .int 0, .int 0, .int 0, .int 0, .int 0, .int 0, .int 0, .int 0, .int 0, .int 0, .int 0, .int 0, .int 0, .int 0, .int 0, .int 0, .int 0, .int 0, .int 0, .int 0, .int 0, .int 0, .int 0, .int 0, .int 0, .int 0, .int 0, .int 0, .int 0, .int 0, .int 0, .int 0, .int 0, .int 0, .int 0, .int 0, .int 0, .int 0, .int 0, .int 0, .int 0, .int 0, .int 0, .int 0, .int 0, .int 0, .int 0, .int 0, .int 0, .int 0, .int 0, .int 0, .int 0, .int 0, .int 0, .int 0, .int 0, .int 0, .int 0, .int 0, .int 0, .int 0, .int 0, .int 0, .int 0, .int 0, .int 0, .int 0]),
  (10, [.int (-1), .int (-1), .int (-1), .int (-1)]),
  (10, [.int 0, .int 0, .int 0, .int 0]),
  (11, [.long 0, .long 0, .long 0, .long 0, .long 0, .long 0, .long 0, .long 0, .long 0, .long 0, .long 0, .long 0, .long 0, .long 0, .long 0, .long 0, .long 0, .long 0, .long 0, .long 0, .long 0, .long 0, .long 0, .long 0, .long 0, .long 0, .long 0, .long 0, .long 0, .long 0, .long 0, .long 0, .long 0, .long 0, .long 0, .long 0, .long 0, .long 0, .long 0, .long 0, .long 0, .long 0, .long 0, .long 0, .long 0, .long 0, .long 0, .long 0, .long 0, .long 0, .long 0, .long 0, .long 0, .long 0, .long 0, .long 0, .long 0, .long 0, .long 0, .long 0, .long 0, .long 0, .long 0, .long 0, .long 0, .long 0, .long 0, .long 0, .long 0, .long 0, .long 0, .long 0, .long 0, .long 0, .long 0, .long 0, .long 0, .long 0, .long 0, .long 0, .long 0, .long 0, .long 0, .long 0, .long 0, .long 0, .long 0, .long 0, .long 0, .long 0, .long 0, .long 0, .long 0, .long 0, .long 0, .long 0]),
  (11, [.long 0, .long 0, .long 0, .long 0, .long 0, .long 0, .long 0, .long 0, .long 0, .long 0, .long 0, .long 0, .long 0, .long 0, .long 0, .long 0, .long 0, .long 0, .long 0, .long 0, .long 0, .long 0, .long 0, .long 0])]
def q_hp0 : q_H := q_hpA ++ q_hpB
theorem q_made1 : q_run q_CO q_I 1000000 8 54 [.ref 0] [(5, c_dfl 5 0)] = some (none, q_hpA) := by decide +kernel
theorem q_made2 : q_run q_CO q_I 1000000 8 109 [.ref 133] (q_hpA ++ [(6, c_dfl 6 0)]) = some (none, q_hp0) := by decide +kernel
theorem q_hpA_len : q_hpA.length = 133 ∧ q_sl q_hpA = 1244 := by decide +kernel
theorem q_hp0_len : q_hp0.length = 146 ∧ q_sl q_hp0 = 2652 := by decide +kernel
def s_vb (q : s_Q) (v : Value) : Bool := match v with
  | .int x => Nat.beq q.1 0 && i_ble q.2.1 x.toInt && i_ble x.toInt q.2.2
  | .long x => Nat.beq q.1 1 && i_ble q.2.1 x.toInt && i_ble x.toInt q.2.2
  | .ref h => (match s_ct[h]? with
    | some t => Nat.beq q.1 (10 + t)
    | none => false)
  | _ => false
theorem s_vb_ok {q : s_Q} {v : Value} (h : s_vb q v = true) : s_inq q v := by
  cases v with
  | int x =>
    have h : (Nat.beq q.1 0 && i_ble q.2.1 x.toInt && i_ble x.toInt q.2.2) = true := h
    simp only [Bool.and_eq_true, i_ble_iff] at h
    exact ⟨x.toInt, ⟨s_beq h.1.1, rfl⟩, fun _ => ⟨h.1.2, h.2⟩⟩
  | long x =>
    have h : (Nat.beq q.1 1 && i_ble q.2.1 x.toInt && i_ble x.toInt q.2.2) = true := h
    simp only [Bool.and_eq_true, i_ble_iff] at h
    exact ⟨x.toInt, ⟨s_beq h.1.1, rfl⟩, fun _ => ⟨h.1.2, h.2⟩⟩
  | ref c =>
    cases ht : s_ct[c]? with
    | none => simp only [s_vb, ht] at h; cases h
    | some t =>
      simp only [s_vb, ht] at h
      have h1 := s_beq h
      exact ⟨(c : Int), ⟨t, h1, rfl, ht⟩, fun h2 => by omega⟩
  | _ => cases h
def s_vbs (L : List s_G) : Nat → List Value → Bool
  | _, [] => true
  | i, v :: vs => s_ob (s_sg L i) (fun q => s_vb q v) && s_vbs L (i + 1) vs
theorem s_vbs_ok {L : List s_G} : ∀ {vs : List Value} {i : Nat}, s_vbs L i vs = true → ∀ (j : Nat) (v : Value), vs[j]? = some v → ∃ q, s_sg L (i + j) = some q ∧ s_inq q v
  | [], _, _, j, v, h => by cases h
  | w :: vs, i, h, j, v, hj => by
    rw [s_vbs, Bool.and_eq_true] at h
    cases j with
    | zero =>
      cases hj
      obtain ⟨q, h1, h2⟩ := s_ob_some h.1
      exact ⟨q, h1, s_vb_ok h2⟩
    | succ j =>
      have := s_vbs_ok h.2 j v hj
      rwa [show i + 1 + j = i + (j + 1) by omega] at this
noncomputable def s_hb : List Nat → q_H → Bool
  | [], [] => true
  | t :: ts, d :: hp => s_ob (s_td t) (fun D => Nat.beq d.1 D.1 && Nat.beq d.2.length D.2.1 && s_vbs D.2.2.1 0 d.2) && s_hb ts hp
  | _, _ => false
theorem s_hb_ok : ∀ {ts : List Nat} {hp : q_H}, s_hb ts hp = true → hp.length = ts.length ∧ ∀ (c t : Nat), ts[c]? = some t → ∃ (D : s_D) (d : Nat × List Value), s_td t = some D ∧ hp[c]? = some d ∧ s_cok D d
  | [], [], _ => ⟨rfl, fun c t h => by cases h⟩
  | t :: ts, d :: hp, h => by
    rw [s_hb, Bool.and_eq_true] at h
    obtain ⟨e1, e2⟩ := s_hb_ok h.2
    refine ⟨by simp [e1], fun c t' ht => ?_⟩
    cases c with
    | zero =>
      cases ht
      obtain ⟨D, h1, h2⟩ := s_ob_some h.1
      simp only [Bool.and_eq_true] at h2
      refine ⟨D, d, h1, rfl, s_beq h2.1.1, s_beq h2.1.2, fun i v hv => ?_⟩
      have := s_vbs_ok h2.2 i v hv
      rwa [Nat.zero_add] at this
    | succ c => exact e2 c t' ht
  | [], _ :: _, h => by cases h
  | _ :: _, [], h => by cases h
theorem s_hok0 : s_hok q_hp0 := by
  have h : s_hb s_ct q_hp0 = true := by decide +kernel
  obtain ⟨e1, e2⟩ := s_hb_ok h
  exact ⟨by rw [e1, s_ct_ok], q_hp0_len.2, e2⟩
