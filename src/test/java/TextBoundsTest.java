/** Each sentence of the document about the tape, its tokens, lines and faults that names a bound: promises 1 to 5. */
public final class TextBoundsTest {
  private static final Checks c = new Checks("TextBoundsTest");
  private static final int BAD = Checks.BAD, FULL = Checks.FULL, MIN = Checks.MIN, MAX = Checks.MAX;
  private static final int TAPE = 160;
  private static final String SIX = "place 20;".repeat(6);

  private static String blanks(int n) {
    return " ".repeat(n);
  }

  private static boolean isLetter(int sign) {
    return sign >= 97 && sign <= 122;
  }

  private static boolean isFigure(int sign) {
    return sign >= 48 && sign <= 57;
  }

  private static void newObject() {
    c.sentence("Answers: BAD -1, STATE -2, FULL -3, NONE -4");
    c.due("BAD", LineDispatch.BAD, -1);
    c.due("STATE", LineDispatch.STATE, -2);
    c.due("FULL", LineDispatch.FULL, -3);
    c.due("NONE", LineDispatch.NONE, -4);
    c.sentence("LineDispatch(): No PLACES, no TRAINS; SHEETS of nothing.");
    LineDispatch x = new LineDispatch();
    c.row("rule", x::rule, 0, 0, 0, 0, 0, 0, 1, 0, 0);
    c.row("count", x::count, 0, 0, 0, Checks.NONE, 0, 0);
    for (int i = 0; i < 6; i++) c.due("place", x.place(0, i), BAD);
    for (int i = 0; i < 7; i++) c.due("train", x.train(0, i), BAD);
    for (int k = 0; k < 4; k++) c.due("lay on nothing", x.lay(k, 0, 0), -10 - Checks.NULL);
    c.sentence("CLOCK: MINUTES (0 at first)");
    c.due("the clock", x.rule(2), 0);
    c.sentence("PLACES 0 on (6 at most; none at first)");
    c.due("no place to be added to", x.add(0, 1, 1), BAD);
  }

  private static void feed() {
    c.sentence("feed: A byte (0 to 127) comes behind THE TAPE: how many it has. BAD");
    LineDispatch x = new LineDispatch();
    for (int b = 0; b <= 127; b++) c.due("feed " + b, x.feed(b), b + 1);
    c.bad("feed", x::feed, -1, 128, 255, 256, MIN, MAX);
    c.due("bytes then", x.count(2), 128);
    c.sentence("feed: FULL: more than 160");
    for (int i = 129; i <= TAPE; i++) c.due("feed", x.feed(32), i);
    c.due("the 161st", x.feed(32), FULL);
    c.due("and again", x.feed(0), FULL);
    c.due("bytes then", x.count(2), TAPE);
    c.sentence("the first that fits");
    c.due("BAD ahead of FULL", x.feed(-1), BAD);
    c.due("BAD ahead of FULL", x.feed(128), BAD);
    c.sentence("feed: comes behind THE TAPE");
    c.due("the 161st byte is not on it", Checks.tell(new LineDispatch(), blanks(TAPE) + "."), 0);
    c.due("the 160th is", Checks.tell(new LineDispatch(), blanks(TAPE - 1) + "."), -10 - 159);
  }

  private static void end() {
    c.sentence("end: THE TAPE keeps its first n bytes: how many it had. BAD (n above that, too)");
    LineDispatch x = new LineDispatch();
    c.due("of an empty one 0", x.end(0), 0);
    c.bad("end of an empty one", x::end, -1, 1, TAPE, MIN, MAX);
    Checks.feedAll(x, "place 3;place 4;");
    c.bad("end of 16 bytes", x::end, -1, 17, MIN, MAX);
    c.due("all", x.end(16), 16);
    c.due("the first line", x.end(8), 16);
    c.due("bytes then", x.count(2), 8);
    c.bad("what was there is above it", x::end, 9, 16);
    c.due("once more the same", x.end(8), 8);
    Checks.feedAll(x, "place 5;");
    c.due("what comes behind", x.text(), 2);
    c.due("the first", x.place(0, 1), 3);
    c.due("the one that was cut is gone", x.place(1, 1), 5);
    Checks.feedAll(x, "place 7;place 123;");
    x.end(16);
    c.due("a number that was cut", x.text(), -10 - 16);
    Checks.feedAll(x, "place 7;places");
    x.end(13);
    c.due("a name that was cut", x.text(), -10 - 13);
    Checks.feedAll(x, "place 7;place 9;");
    x.end(8);
    c.due("a line that was cut", x.text(), 1);
    Checks.feedAll(x, blanks(TAPE));
    c.bad("end of a full one", x::end, TAPE + 1);
    c.due("160 of 160", x.end(TAPE), TAPE);
    c.due("full still", x.feed(32), FULL);
    c.due("159 of 160", x.end(TAPE - 1), TAPE);
    c.due("one more byte", x.feed(32), TAPE);
    c.due("0 of 160", x.end(0), TAPE);
    c.due("nothing is told", x.text(), 0);
  }

  private static void tape() {
    c.sentence("THE TAPE has 160 bytes, places from 0");
    c.faulty(".", 1, 0);
    c.faulty(blanks(TAPE - 1) + ".", 1, 159);
    c.faulty("place" + blanks(TAPE - 5), 2, 160);
    c.faulty(blanks(TAPE - 12) + "train 0 1 1;", 6, 160);
    c.taken(blanks(TAPE - 8) + "place 3;", 1);
    c.taken("place1;" + "section1;".repeat(17), 18);
    c.faulty(blanks(TAPE - 5) + "place", 2, 160);
    c.faulty(blanks(TAPE - 6) + "place3", 2, 160);
    c.faulty(blanks(TAPE - 3) + "123", 1, 157);
    c.faulty(blanks(TAPE - 4) + "plac", 2, 156);
    c.sentence("text: THE TAPE (empty then, by a FAULT, too)");
    LineDispatch x = new LineDispatch();
    c.due("a fault", Checks.tell(x, "place 3;x"), -18);
    c.due("empty by a fault", x.count(2), 0);
    c.due("a text of nothing", x.text(), 0);
    c.due("taken", Checks.tell(x, "place 3;"), 1);
    c.due("empty by none", x.count(2), 0);
    c.due("the next byte is the first", x.feed(32), 1);
    c.sentence("text: { line }");
    c.taken("", 0);
    c.taken(" ", 0);
    c.taken(blanks(TAPE), 0);
  }

  private static void signs() {
    c.sentence("TOKENS: NAMES (a .. z), NUMBERS, the sign ; (a point is none); blanks (32)");
    for (int b = 0; b <= 127; b++) {
      String sign = String.valueOf((char) b);
      boolean token = isLetter(b) || isFigure(b) || b == ';';
      if (b == 32) c.taken(sign, 0);
      else c.faulty(sign, token ? 2 : 1, 0);
      behindName(b, sign);
      behindNumber(b, sign);
      behindLine(b, sign);
    }
  }

  private static void behindName(int b, String sign) {
    String text = "place" + sign + "3;";
    if (b == 32 || b == '0' || b == '1') c.taken(text, 1);
    else if (isLetter(b)) c.faulty(text, 2, 0);
    else if (isFigure(b)) c.faulty(text, 3, 5);
    else c.faulty(text, b == ';' ? 2 : 1, 5);
  }

  private static void behindNumber(int b, String sign) {
    String text = "place 1" + sign;
    if (b == ';') c.taken(text, 1);
    else if (b == 32 || isFigure(b)) c.faulty(text, 2, 8);
    else c.faulty(text, isLetter(b) ? 2 : 1, 7);
  }

  private static void behindLine(int b, String sign) {
    String text = "place 1;" + sign;
    if (b == 32) c.taken(text, 1);
    else c.faulty(text, isLetter(b) || isFigure(b) || b == ';' ? 2 : 1, 8);
  }

  private static void spaces() {
    c.sentence("blanks (32) ahead, between, behind, as many as wanted");
    LineDispatch x = c.taken("   place   4   5   6   ;   section   7   ;   place   8   ;   train   0   1   6   ;   ", 4);
    c.due("a length", x.place(0, 1), 6);
    c.due("minutes", x.place(0, 5), 7);
    c.due("a train", x.train(0, 2), 6);
    c.sentence("at least one between two NAMES, between two NUMBERS; else none is needed");
    c.taken("place4 5 6;section7;place8;train0 1 6;", 4);
    c.faulty("placeplace 4;", 2, 0);
    c.faulty("place 4;sectiontrain 4;", 2, 8);
    c.due("one number of two figures", c.taken("place 12;", 1).place(0, 0), 1);
    c.due("two of one", c.taken("place 1 2;", 1).place(0, 0), 2);
    c.faulty("place 4;train 012;", 1, 14);
    c.faulty("place 4;train 01 2;", 2, 18);
    c.sentence("TOKENS, each as long as may be");
    c.due("12, not 1 and 2", c.taken("place 12;", 1).place(0, 1), 12);
    c.faulty("places 3;", 2, 0);
    c.faulty("place 3;trains 0 1 1;", 2, 8);
    c.faulty("place 3;sections 1;", 2, 8);
  }

  private static void figures() {
    c.sentence("NUMBERS (1 or 2 figures); 1 a NUMBER that is too long (its first byte)");
    c.due("0 ahead", c.taken("place 09;", 1).place(0, 1), 9);
    c.taken("place 3;section 09;", 2);
    c.taken("place 3;place 3;train 00 01 03;", 3);
    c.faulty("place 00;", 3, 6);
    for (String n : new String[] {"000", "001", "009", "100", "200", "999", "0001", "1".repeat(40)}) {
      c.faulty("place " + n + ";", 1, 6);
      c.faulty("place 1 " + n + ";", 1, 8);
      c.faulty("place 1 1 " + n + ";", 1, 10);
      c.faulty("place 1;section " + n + ";", 1, 16);
      c.faulty("train " + n + " 1 1;", 1, 6);
      c.faulty("train 0 " + n + " 1;", 1, 8);
      c.faulty("train 0 1 " + n + ";", 1, 10);
      c.faulty("place 1 1 1 " + n + ";", 1, 12);
      c.faulty("place 1;" + n, 1, 8);
    }
  }

  private static void boundsOfNumbers() {
    c.sentence("each of 1 to 3 TRACKS, of LENGTHS (1 to 20); 3 a NUMBER out of its bounds");
    for (int n = 0; n <= 99; n++) {
      bounded("place ", n, ";", 1, 20, 1);
      bounded("place 9 ", n, ";", 1, 20, 1);
      bounded("place 9 9 ", n, ";", 1, 20, 1);
    }
    c.sentence("section: MINUTES (1 to 9)");
    for (int n = 0; n <= 99; n++) bounded("place 9;section ", n, ";", 1, 9, 2);
    c.sentence("train: from, to (0 to 5), LENGTH (1 to 20)");
    for (int n = 0; n <= 99; n++) {
      bounded(SIX + "train ", n, n == 0 ? " 1 1;" : " 0 1;", 0, 5, 7);
      bounded(SIX + "train " + (n == 0 ? "1 " : "0 "), n, " 1;", 0, 5, 7);
      bounded(SIX + "train 0 1 ", n, ";", 1, 20, 7);
    }
  }

  private static void bounded(String ahead, int n, String behind, int low, int high, int lines) {
    if (n >= low && n <= high) c.taken(ahead + n + behind, lines);
    else c.faulty(ahead + n + behind, 3, ahead.length());
  }

  private static void tracks() {
    c.sentence("place N [ N [ N ] ] ;");
    c.faulty("place;", 2, 5);
    c.due("one", c.taken("place 1;", 1).place(0, 0), 1);
    c.due("two", c.taken("place 1 2;", 1).place(0, 0), 2);
    c.due("three", c.taken("place 1 2 3;", 1).place(0, 0), 3);
    c.faulty("place 1 2 3 4;", 2, 12);
    c.faulty("place 1 2 3 0;", 2, 12);
    c.faulty("place 1 2 3 99;", 2, 12);
    c.faulty("place 1 2 3 place 4;", 2, 12);
  }

  private static void wrongTokens() {
    c.sentence("2 a TOKEN that can not stand there");
    for (String start : new String[] {"place ", "place 1;section ", "train ", "train 0 ", "train 0 1 "}) {
      c.faulty(start + ";", 2, start.length());
      c.faulty(start + "place", 2, start.length());
      c.faulty(start + "x", 2, start.length());
    }
    for (String start : new String[] {"place 1 ", "place 1 1 ", "place 1 1 1 ", "place 1;section 1 ", "train 0 1 1 "}) {
      c.faulty(start + "train", 2, start.length());
      c.faulty(start + "x", 2, start.length());
    }
    c.faulty("place 1;section 1 1;", 2, 18);
    c.faulty("train 0 1 1 1;", 2, 12);
    c.faulty("train 0 1;", 2, 9);
    c.faulty("train 0;", 2, 7);
    for (String start : new String[] {"", " ", "place 1;", "place 1; ", "place 1;section 1;"}) {
      c.faulty(start + "1;", 2, start.length());
      c.faulty(start + ";", 2, start.length());
    }
    c.sentence("2 (a NAME that begins no line)");
    for (String name : new String[] {"p", "plac", "lace", "places", "plaze", "olace", "qlace", "rection", "tection", "srain", "urain", "brain", "s", "sectio", "sections", "ection", "sectiom",
        "t", "trai", "trains", "rain", "traim", "line", "text", "a", "z", "zzzzz"}) {
      c.faulty(name + " 1;", 2, 0);
      c.faulty("place 1; " + name + ";", 2, 9);
    }
  }

  private static void ends() {
    c.sentence("2 (or the end: the length)");
    for (String cut : new String[] {"place", "place 1", "place 1 1", "place 1 1 1", "place 1;section", "place 1;section 1",
        "train", "train 0", "train 0 1", "train 0 1 1", "place 1;place 1;train 0 1 1"}) {
      c.faulty(cut, 2, cut.length());
      c.faulty(cut + " ", 2, cut.length() + 1);
      c.faulty(cut + "     ", 2, cut.length() + 5);
    }
  }

  private static void toIsFrom() {
    c.sentence("4 to which is from (it)");
    for (int p = 0; p < 6; p++) c.faulty(SIX + "train " + p + " " + p + " 1;", 4, 62);
    c.faulty("train 1 01 1;", 4, 8);
    c.faulty("train 0   0 1;", 4, 10);
    c.faulty("train 6 6 1;", 3, 6);
  }

  private static void tooMany() {
    c.sentence("5 the 7th PLACE (its NAME); PLACES (6 at most)");
    c.due("six", c.taken("place 1;".repeat(6), 6).rule(0), 6);
    c.faulty("place 1;".repeat(7), 5, 48);
    c.faulty("place 1;".repeat(6) + "   place", 5, 51);
    c.sentence("5 the 5th TRAIN (its NAME); TRAINS (4 at most)");
    String four = "train 0 1 1;".repeat(2) + "train 1 0 1;".repeat(2);
    c.due("four", c.taken("place 1 1;place 1 1;" + four, 6).rule(1), 4);
    c.faulty("place 1 1 1;place 1 1;" + four + "train 0 1 1;", 5, 70);
    c.faulty(four + "  train", 5, 50);
    c.sentence("5 a section ahead of all PLACES (its NAME)");
    c.faulty("section 1;place 1;", 5, 0);
    c.faulty("train 0 1 1;  section 1;place 1;place 1;", 5, 14);
    c.taken("place 1;section 1;", 2);
  }

  private static void sections() {
    c.sentence("section: of the SECTION behind the latest PLACE (not told: 1; told again: the later one holds)");
    LineDispatch x = c.taken("place 1;place 1;section 4;place 1;section 2;section 9;place 1;section 9;section 2;place 1;", 10);
    int[] want = {1, 4, 9, 2, Checks.NONE};
    for (int p = 0; p < 5; p++) c.due("minutes behind " + p, x.place(p, 5), want[p]);
    c.due("behind a train line it is still the latest place", c.taken("place 1;train 0 1 1;section 7;place 1;", 4).place(0, 5), 7);
    c.due("behind the last it is told and is not there", c.taken("place 1;section 7;", 2).place(0, 5), Checks.NONE);
    Checks.tell(x, "place 1;place 1;place 1;place 1;place 1;");
    for (int p = 0; p < 4; p++) c.due("a later text tells anew", x.place(p, 5), 1);
  }

  private static void firstMet() {
    c.sentence("FAULTS, the first met as it is read (a TOKEN is read when the one before has been taken)");
    c.faulty("place 0.;", 3, 6);
    c.faulty("place .0;", 1, 6);
    c.faulty("place 21 0;", 3, 6);
    c.faulty("place 1 x.;", 2, 8);
    c.faulty("placex.", 2, 0);
    c.faulty("train 6 6 0;", 3, 6);
    c.faulty("train 1 6 0;", 3, 8);
    c.faulty("train 1 1 0;", 4, 8);
    c.faulty("train 1 1.", 4, 8);
    c.faulty("train 1 1", 4, 8);
    c.faulty("train 1 100", 1, 8);
    c.faulty("train 0 1 21.", 3, 10);
    c.faulty("place 1;".repeat(6) + "place.", 5, 48);
    c.faulty("place 1;".repeat(6) + "place 0 0 0 0;", 5, 48);
    c.faulty("place 1;".repeat(6) + "placex 1;", 2, 48);
    c.faulty("train 0 1 1;".repeat(4) + "train 9 9 99;", 5, 48);
    c.faulty("section.", 5, 0);
    c.faulty("section 10;", 5, 0);
    c.faulty("place 1;place 1;section 10.", 3, 24);
  }

  private static void behindAll() {
    c.sentence("Behind all (the length): 6 a PLACE is told that there is not");
    c.faulty("train 0 1 1;", 6, 12);
    c.faulty("place 1;train 0 1 1;", 6, 20);
    c.faulty("place 1;train 1 0 1;", 6, 20);
    c.faulty("place 1;place 1;train 2 1 1;   ", 6, 31);
    c.faulty("place 1;".repeat(5) + "train 0 5 1;", 6, 52);
    c.taken("place 1;".repeat(6) + "train 0 5 1;", 7);
    c.taken("place 1;".repeat(6) + "train 5 0 1;", 7);
    c.taken("train 0 1 1;place 1;place 1;", 3);
    c.faulty("place 1;train 0 1 1;.", 1, 20);
    c.faulty("place 1;train 0 1 1;place 0;", 3, 26);
    c.sentence("7 a PLACE does not HOLD the TRAINS that are AT it");
    c.faulty("place 4;place 9;train 0 1 5;", 7, 28);
    c.faulty("place 4;place 9;train 0 1 5; ", 7, 29);
    c.taken("place 5;place 1;train 0 1 5;", 3);
    c.faulty("place 9;place 4;train 0 1 5;train 1 0 5;", 7, 40);
    c.sentence("8 it is not SAFE");
    c.faulty("place 5;place 4;place 5;train 0 2 5;", 8, 36);
    c.faulty("place 5;place 4;place 5;train 0 2 5;  ", 8, 38);
    c.taken("place 5;place 5;place 5;train 0 2 5;", 4);
    c.faulty("place 9;place 9;place 9;place 9;train 1 3 1;train 2 0 1;", 8, 56);
    c.taken("place 9;place 9;place 9;place 9;train 1 2 1;train 2 0 1;", 6);
    c.sentence("6, then 7, then 8: the first");
    c.faulty("place 1;place 1;train 0 1 9;train 0 2 1;", 6, 40);
    c.faulty("place 9;place 1;place 9;train 0 2 9;train 0 3 1;", 6, 48);
    c.faulty("place 9;place 1;place 8;train 0 2 9;train 2 1 9;", 7, 48);
  }

  private static void takenTellsAll() {
    c.sentence("A text that is taken tells all, in place of what there was; CLOCK is 0, THE JOURNAL is empty, IMAGES are gone; SHEETS stay");
    LineDispatch x = c.told("place 9 8;section 5;place 9;section 4;place 9;train 0 2 3;train 2 0 4;");
    x.sheet(0, 1, 40);
    x.sheet(3, 2, 3);
    Checks.lay(x, 3, 0, 1, 2);
    x.read(0, 2, 0, 1);
    x.tick(3);
    x.let(0);
    x.keep(0);
    x.keep(1);
    c.due("two lines", Checks.tell(x, "place 7;place 6;"), 2);
    c.row("rule", x::rule, 2, 0, 0, 0, 0, 0, 1, 0, 0);
    c.row("count", x::count, 0, 2, 0, 40, 0, 1);
    c.due("length", x.place(0, 1), 7);
    c.due("one track", x.place(0, 2), Checks.NONE);
    c.due("minutes", x.place(0, 5), 1);
    c.due("no third place", x.place(2, 0), BAD);
    c.due("no train", x.train(0, 0), BAD);
    c.due("no entry", x.journal(0, 0), Checks.NONE);
    c.due("no image 0", x.back(0), Checks.STATE);
    c.due("no image 1", x.back(1), Checks.STATE);
    c.due("the fault of the latest read()", x.torn(), Checks.CAST);
    c.due("the cells of a sheet", x.read(3, 2, 0, 1), 1);
    c.due("its length", x.train(0, 2), 2);
    c.due("an empty one, too", x.text(), 0);
    c.row("rule", x::rule, 0, 0, 0, 0, 0, 0, 1, 0, 0);
    c.due("sheets stay", x.count(3), 40);
  }

  private static void fault() {
    c.sentence("fault: The FAULT of the latest text(); 0");
    LineDispatch x = new LineDispatch();
    c.due("no text yet", x.fault(), 0);
    String[] texts = {".", ";", "place 0;", "train 1 1 1;", "section 1;", "train 0 1 1;", "place 1;place 1;train 0 1 2;",
        "place 2;place 1;place 1;train 0 2 2;"};
    for (int f = 1; f <= 8; f++) {
      Checks.tell(x, texts[f - 1]);
      c.due("of '" + texts[f - 1] + "'", x.fault(), f);
      x.feed(-1);
      x.feed(32);
      x.end(0);
      c.due("still", x.fault(), f);
    }
    c.due("one that is taken", Checks.tell(x, "place 1;"), 1);
    c.due("has none", x.fault(), 0);
    Checks.tell(x, ".");
    c.due("an empty one", x.text(), 0);
    c.due("has none", x.fault(), 0);
  }

  public static void main(String[] args) {
    newObject();
    feed();
    end();
    tape();
    signs();
    spaces();
    figures();
    boundsOfNumbers();
    tracks();
    wrongTokens();
    ends();
    toIsFrom();
    tooMany();
    sections();
    firstMet();
    behindAll();
    takenTellsAll();
    fault();
    c.finish();
  }
}
