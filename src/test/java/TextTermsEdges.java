/** The edges that the terms name of texts, spots and sheets. */
final class TextTermsEdges {
  private TextTermsEdges() {}

  static void all() {
    Words.of(Words.TERMS, "3. A TEXT is read from THE TAPE (bytes, at most 120).",
        TextTermsEdges::tapeOf120);
    Words.of(Words.TERMS, "TOKENS, each as long as can be:", TextTermsEdges::asLongAsCanBe);
    Words.of(Words.TERMS, "WORDS (letters a to z),", TextTermsEdges::lettersFromAToZ);
    Words.of(Words.TERMS, "NUMBERS (digits, 9999 at most),", TextTermsEdges::numbersTo9999);
    Words.of(Words.TERMS, "SIGN ; ;", TextTermsEdges::oneSign);
    Words.of(Words.TERMS, "blanks may stand between.", TextTermsEdges::blanks);
    Words.of(Words.TERMS, "TEXT: ITEM { ; ITEM }.", TextTermsEdges::oneItemAndMore);
    Words.of(Words.TERMS, "ITEM: ship, tug, liner, yacht, racer, ghost or pilot,",
        TextTermsEdges::sevenKinds);
    Words.of(Words.TERMS, "perhaps at and a NUMBER (a CELL; 11 without),",
        TextTermsEdges::atACell);
    Words.of(Words.TERMS, "perhaps back (its WAY is 0),", TextTermsEdges::back);
    Words.of(Words.TERMS, "perhaps speed and a NUMBER (0 to 5),", TextTermsEdges::speedFrom0To5);
    Words.of(Words.TERMS, "perhaps port (it is in PORT):", TextTermsEdges::port);
    Words.of(Words.TERMS, "a new one;", TextTermsEdges::aNewOne);
    Words.of(Words.TERMS, "pattern, a NUMBER (0 to 4095);", () -> light("pattern", 0, 4095));
    Words.of(Words.TERMS, "lag, a NUMBER (0 to 23);", () -> light("lag", 1, 23));
    Words.of(Words.TERMS, "book, a NUMBER (0 or 1).", () -> light("book", 2, 1));
    faults();
    Words.of(Words.TERMS, "SPOTS 0 to 9 hold a SHIP or nothing (at first).",
        TextTermsEdges::spotsFrom0To9);
    Words.of(Words.TERMS, "SHEETS 0 to 3:", TextTermsEdges::sheetsFrom0To3);
    Words.of(Words.TERMS, "rows of at most 40 numbers", TextTermsEdges::fortyNumbers);
    Words.of(Words.TERMS, "of 8, 16 or 32 bits (told with their sign: of 8 bits 255 is -1),",
        TextTermsEdges::numbersWithTheirSign);
    Words.of(Words.TERMS, "or MISSING (at first).", TextTermsEdges::missingAtFirst);
  }

  private static void faults() {
    Words.of(Words.TERMS,
        "FAULT: the place (from 0) of the first byte of the first TOKEN that can't stand "
            + "there",
        TextTermsEdges::firstThatCantStand);
    Words.of(Words.TERMS, "(a NUMBER that isn't as told,", TextTermsEdges::numbersNotAsTold);
    Words.of(Words.TERMS, "another WORD,", TextTermsEdges::otherWords);
    Words.of(Words.TERMS, "a byte that begins no TOKEN,", TextTermsEdges::bytesOfNoToken);
    Words.of(Words.TERMS, "the WORD of a 9th SHIP: its own),", TextTermsEdges::theNinthShip);
    Words.of(Words.TERMS, "or how many bytes there are if it ends too early.",
        TextTermsEdges::endsTooEarly);
  }

  /** Nothing comes of it, and the place of the fault is told. */
  private static void fault(String text, int place) {
    TwinLights x = Due.told("tug at 3");
    String before = Due.all(x);
    Due.is("text() of '" + text + "'", Due.read(x, text), -1 - place);
    Due.same("text() of '" + text + "'", Due.all(x), before);
    Due.is("status(-1) behind '" + text + "'", x.status(-1), 0);
  }

  /** One ship comes of it, of this KIND, CELL, WAY, SPEED and PORT. */
  private static void makes(String text, int... due) {
    TwinLights x = new TwinLights();
    Due.is("text() of '" + text + "'", Due.read(x, text), 1);
    Due.is("count(1) behind '" + text + "'", x.count(1), 1);
    for (int what = 0; what < due.length; what++) {
      Due.is("of(0, " + what + ") behind '" + text + "'", x.of(0, what), due[what]);
    }
  }

  private static void tapeOf120() {
    String blanks = " ".repeat(115);
    TwinLights x = new TwinLights();
    Due.is("text() of 120 bytes", Due.read(x, blanks + "lag 7"), 1);
    Due.is("light(1)", x.light(1), 7);
    Due.is("text() of 120 bytes", Due.read(x, "lag 8" + blanks), 1);
    Due.is("light(1)", x.light(1), 8);
    Due.is("text() of a number of 117 digits", Due.read(x, "lag" + "0".repeat(116) + "9"), 1);
    Due.is("light(1)", x.light(1), 9);
    Due.is("a fault at the last of 120", Due.read(x, "lag 3" + " ".repeat(114) + "#"), -120);
    Due.is("an end too early behind 120", Due.read(x, blanks + "  lag"), -121);
    Due.is("text() of 24 items", Due.read(x, "lag1;".repeat(23) + "lag23"), 24);
    Due.is("light(1)", x.light(1), 23);
    Due.is("text() of a word of 120", Due.read(x, "lag".repeat(40)), -1);
    Due.is("status(-1)", x.status(-1), 0);
    Due.feed(x, blanks + "lag 7");
    Due.is("feed() of the 121st", x.feed(' ', 1), Due.FULL);
    Due.is("count(5)", x.count(5), 120);
  }

  private static void asLongAsCanBe() {
    fault("tugat3", 0);
    fault("tug atback", 4);
    fault("tug backport", 4);
    fault("ta g", 0);
    fault("lag 1 2", 6);
    fault("tug at 1 2", 9);
    fault("tug3", 3);
    fault("pattern 40950", 8);
    makes("tug at12back speed3port", 1, 12, 0, 3, 1);
    TwinLights x = new TwinLights();
    Due.is("text() of lag12", Due.read(x, "lag12"), 1);
    Due.is("light(1)", x.light(1), 12);
  }

  /** Behind the word tug: letters make another word of it, and no other byte does. */
  private static void lettersFromAToZ() {
    fault("tuga", 0);
    fault("tugz", 0);
    fault("tug`", 3);
    fault("tug{", 3);
    fault("tugA", 3);
    fault("tugZ", 3);
    fault("Tug", 0);
    fault("tuG", 0);
    fault("a", 0);
    fault("z", 0);
    for (char letter = 'a'; letter <= 'z'; letter++) {
      fault("tug" + letter, 0);
      fault(letter + "tug", 0);
    }
  }

  private static void numbersTo9999() {
    TwinLights x = new TwinLights();
    String[] digits = {"0", "9", "10", "19", "0007", "00000", "000000000000000000000000000023"};
    int[] due = {0, 9, 10, 19, 7, 0, 23};
    for (int i = 0; i < due.length; i++) {
      Due.is("text() of lag " + digits[i], Due.read(x, "lag " + digits[i]), 1);
      Due.is("light(1) behind lag " + digits[i], x.light(1), due[i]);
    }
    fault("lag 9999", 4);
    fault("lag 10000", 4);
    fault("pattern 9999", 8);
    fault("pattern 10000", 8);
    fault("pattern 10001", 8);
    // What would be 3, if a number wrapped round with 16, 32 or 64 bits.
    fault("lag 65539", 4);
    fault("lag 4294967299", 4);
    fault("lag 18446744073709551619", 4);
    fault("lag 1/", 5);
    fault("lag 1:", 5);
    fault("/", 0);
    fault(":", 0);
  }

  private static void oneSign() {
    TwinLights x = new TwinLights();
    Due.is("text() of two", Due.read(x, "lag 1;lag 2"), 2);
    fault("lag 1,lag 2", 5);
    fault("lag 1:lag 2", 5);
    fault("lag 1<lag 2", 5);
    fault("lag 1 lag 2", 6);
    fault("lag 1;;lag 2", 6);
    fault("lag;1", 3);
    fault("tug at;3", 6);
  }

  private static void blanks() {
    TwinLights x = new TwinLights();
    Due.is("text() of blanks between", Due.read(x, "   lag   7   ;   lag   8   "), 2);
    Due.is("light(1)", x.light(1), 8);
    Due.is("text() without blanks", Due.read(x, "lag7;book0;lag9"), 3);
    Due.is("light(1)", x.light(1), 9);
    makes("  tug  at  3  back  speed  4  port  ", 1, 3, 0, 4, 1);
    fault("la g 7", 0);
    fault("lag 1 7", 6);
    fault("tug sp eed 3", 4);
  }

  private static void oneItemAndMore() {
    TwinLights x = new TwinLights();
    Due.is("text() of one", Due.read(x, "lag 1"), 1);
    Due.is("text() of two", Due.read(x, "tug;lag 2"), 2);
    Due.is("text() of eleven", Due.read(x, "lag 1;tug;tug;tug;tug;tug;tug;tug;book 0;lag 2;book 1"),
        11);
    Due.is("count(1)", x.count(1), 8);
    fault("", 0);
    fault(";", 0);
    fault(";lag 1", 0);
    fault("lag 1;", 6);
    fault("lag 1;;", 6);
    fault("lag 1 tug", 6);
  }

  private static void sevenKinds() {
    String[] words = {"ship", "tug", "liner", "yacht", "racer", "ghost", "pilot"};
    for (int kind = 0; kind <= 6; kind++) {
      makes(words[kind], kind, 11, 1, 1, 0, 0, 0);
      fault(words[kind].substring(1), 0);
      fault(words[kind].substring(0, words[kind].length() - 1), 0);
      fault(words[kind] + "s", 0);
      fault(words[kind] + " " + words[kind], words[kind].length() + 1);
    }
  }

  private static void atACell() {
    makes("tug at 0", 1, 0, 1, 1, 0);
    makes("tug at 23", 1, 23, 1, 1, 0);
    makes("tug", 1, 11, 1, 1, 0);
    makes("tug back", 1, 11, 0, 1, 0);
    fault("tug at 24", 7);
    fault("tug at", 6);
    fault("tug at back", 7);
    fault("tug at 3 at 4", 9);
    fault("tug 3", 4);
  }

  private static void back() {
    makes("tug at 5 back", 1, 5, 0, 1, 0);
    makes("tug at 5", 1, 5, 1, 1, 0);
    fault("tug back back", 9);
    fault("tug back at 3", 9);
    fault("tug back 0", 9);
  }

  private static void speedFrom0To5() {
    makes("tug speed 0", 1, 11, 1, 0, 0);
    makes("tug speed 5", 1, 11, 1, 5, 0);
    fault("tug speed 6", 10);
    fault("tug speed", 9);
    fault("tug speed port", 10);
    fault("tug speed 3 speed 3", 12);
    fault("tug speed 3 back", 12);
    fault("tug speed 3 at 4", 12);
  }

  private static void port() {
    makes("tug port", 1, 11, 1, 1, 1);
    makes("tug at 0 back speed 5 port", 1, 0, 0, 5, 1);
    makes("tug back port", 1, 11, 0, 1, 1);
    makes("tug speed 2 port", 1, 11, 1, 2, 1);
    fault("tug port port", 9);
    fault("tug port at 3", 9);
    fault("tug port back", 9);
    fault("tug port speed 1", 9);
    fault("tug port 1", 9);
  }

  private static void aNewOne() {
    TwinLights x = Due.told("ghost at 3");
    Due.is("text() of two ships", Due.read(x, "tug at 4 port;pilot"), 2);
    Due.each("the text", x, 0, 5, 1, 6);
    Due.each("the text", x, 1, 3, 4, 11);
    Due.each("the text", x, 4, 0, 1, 0);
    Due.each("the text", x, 5, 0, 0, 0);
    Due.each("the text", x, 6, 0, 0, 0);
    Due.is("count(1)", x.count(1), 3);
  }

  private static void light(String word, int what, int most) {
    TwinLights x = new TwinLights();
    for (int v : new int[] {most, 0}) {
      Due.is("text() of " + word + " " + v, Due.read(x, word + " " + v), 1);
      Due.is("light(" + what + ") behind it", x.light(what), v);
    }
    int place = word.length() + 1;
    fault(word + " " + (most + 1), place);
    fault(word + " -1", place);
    fault(word + " " + word, place);
    fault(word, place - 1);
    fault(word + " ", place);
    fault(word + ";", place - 1);
    fault(word + " 0 0", place + 2);
    fault(word + "s 0", 0);
  }

  private static void firstThatCantStand() {
    fault("lag 24;boat;#", 4);
    fault("  lag   24", 8);
    fault("lag 3;boat 99", 6);
    fault("tug at 5 at 24", 9);
    fault("tug at 24 #", 7);
    fault("#", 0);
    fault("lag 3#", 5);
    fault("lag 3 ;#", 7);
  }

  private static void numbersNotAsTold() {
    fault("tug at 24", 7);
    fault("tug at 9999", 7);
    fault("tug speed 6", 10);
    fault("pattern 4096", 8);
    fault("lag 24", 4);
    fault("book 2", 5);
    fault("7", 0);
    fault("lag 3;7", 6);
    fault("tug 7", 4);
    fault("tug back 7", 9);
    fault("tug port 7", 9);
    fault("lag 3 3", 6);
  }

  private static void otherWords() {
    fault("boat", 0);
    fault("lag 3;boat", 6);
    fault("tug boat", 4);
    fault("tug at boat", 7);
    fault("lag boat", 4);
    // Words of the language where they can't stand.
    fault("at 3", 0);
    fault("back", 0);
    fault("speed 3", 0);
    fault("port", 0);
    fault("tug lag 3", 4);
    fault("tug tug", 4);
    fault("lag tug", 4);
    fault("past 3", 0);
    // A word of which one letter is another, wherever that stands.
    String[] texts = {"ship", "tug", "liner", "yacht", "racer", "ghost", "pilot", "pattern 3",
        "lag 3", "book 1", "tug at 3", "tug back", "tug speed 3", "tug port"};
    for (String text : texts) {
      int word = text.startsWith("tug ") ? 4 : 0;
      for (int i = word; i < text.length() && text.charAt(i) >= 'a'; i++) {
        fault(text.substring(0, i) + "z" + text.substring(i + 1), word);
      }
    }
  }

  /** Each byte behind the word tug, where none can make a number or a ship of it. */
  private static void bytesOfNoToken() {
    for (int b = 0; b <= 255; b++) {
      boolean letter = b >= 'a' && b <= 'z';
      TwinLights x = new TwinLights();
      Due.feed(x, "tug");
      x.feed(b, 1);
      int due = letter ? -1 : b == ' ' ? 1 : b == ';' ? -5 : -4;
      Due.is("text() of tug and the byte " + b, x.text(), due);
      x.feed(b, 1);
      Due.feed(x, "lag 3");
      Due.is("text() of the byte " + b + " and lag 3", x.text(), b == ' ' ? 1 : -1);
      Due.is("status(-1)", x.status(-1), 0);
    }
  }

  private static void theNinthShip() {
    TwinLights x = Due.eight();
    String before = Due.all(x);
    Due.is("a ninth", Due.read(x, "tug at 99"), -1);
    Due.is("a ninth, behind an item", Due.read(x, "lag 3;tug"), -7);
    Due.same("a ninth", Due.all(x), before);
    Due.is("no ship", Due.read(x, "lag 3"), 1);
    TwinLights y = new TwinLights();
    Due.is("nine in one text", Due.read(y, "tug;tug;tug;tug;tug;tug;tug;tug;tug"), -33);
    Due.is("count(1)", y.count(1), 0);
    Due.is("eight in one text", Due.read(y, "tug;tug;tug;tug;tug;tug;tug;tug"), 8);
    Due.is("count(1)", y.count(1), 8);
    TwinLights z = Due.told("tug;tug;tug;tug;tug;tug;tug");
    Due.is("an eighth and a ninth", Due.read(z, "tug at 3;ghost"), -10);
    Due.is("count(1)", z.count(1), 7);
    Due.is("an eighth that isn't right", Due.read(z, "tug at 99"), -8);
    Due.is("an eighth", Due.read(z, "tug at 3"), 1);
    Due.is("count(1)", z.count(1), 8);
  }

  private static void endsTooEarly() {
    fault("", 0);
    fault(" ", 1);
    fault("   ", 3);
    fault("lag", 3);
    fault("lag  ", 5);
    fault("pattern", 7);
    fault("book", 4);
    fault("lag 3;", 6);
    fault("lag 3;  ", 8);
    fault("tug at", 6);
    fault("tug at ", 7);
    fault("tug speed", 9);
    fault("tug at 3 back speed ", 20);
    fault(" ".repeat(120), 120);
  }

  private static void spotsFrom0To9() {
    TwinLights x = Due.told("ship;tug");
    Due.is("count(7)", x.count(7), 0);
    for (int spot = 0; spot <= 9; spot++) {
      Due.is("as(" + spot + ", 0) at first", x.as(spot, 0), Due.MISSING);
    }
    for (int spot = 0; spot <= 9; spot++) {
      Due.is("hold(" + spot + ", 1)", x.hold(spot, 1), 1);
      Due.is("count(7)", x.count(7), spot + 1);
      Due.is("as(" + spot + ", 0)", x.as(spot, 0), 1);
    }
  }

  private static void sheetsFrom0To3() {
    TwinLights x = Due.told("ship at 7;ship at 0");
    for (int s = 0; s <= 3; s++) {
      Due.is("sheet(" + s + ", 8, 2)", x.sheet(s, 8, 2), 2);
      Due.is("write(" + s + ", 0, 7)", x.write(s, 0, 7), 1);
      Due.is("judge(" + s + ")", x.judge(s), 0);
    }
    x.write(2, 0, 8);
    for (int s = 0; s <= 3; s++) {
      Due.is("judge(" + s + ")", x.judge(s), s == 2 ? 1 : 0);
    }
  }

  private static void fortyNumbers() {
    for (int bits : new int[] {8, 16, 32}) {
      TwinLights x = Due.told("ship at 0 port");
      Due.is("sheet(3, " + bits + ", 40)", x.sheet(3, bits, 40), 40);
      Due.is("kinds() of 40 times 0", x.kinds(3, 0), 127);
      Due.is("write(3, 39, 1)", x.write(3, 39, 1), 1);
      Due.is("kinds() of 39 times 0, and 1", x.kinds(3, 0), 0);
      Due.is("write(3, 40, 1)", x.write(3, 40, 1), Due.BEYOND);
      Due.is("sheet(3, " + bits + ", 41)", x.sheet(3, bits, 41), Due.BEYOND);
      Due.is("write(3, 39, 0), which there is still", x.write(3, 39, 0), 1);
      Due.is("kinds() of 40 times 0", x.kinds(3, 0), 127);
    }
  }

  /** What a number is shows by -1, which is any, by a SPEED and by a CELL. */
  private static void numbersWithTheirSign() {
    int[][] any = {{8, 255}, {8, -1}, {8, 511}, {8, 65535}, {16, 65535}, {16, -1}, {16, 131071},
        {32, -1}};
    int[][] none = {{8, 127}, {8, 128}, {8, 254}, {16, 255}, {16, 32767}, {16, 32768}, {32, 255},
        {32, 65535}, {32, Due.GREATEST_INT}, {32, Due.LEAST_INT}};
    int[][] five = {{8, 5}, {8, 261}, {8, -251}, {16, 5}, {16, 65541}, {16, -65531}, {32, 5}};
    int[][] far = {{16, 261}, {32, 261}, {32, 65541}, {16, -251}, {32, -65531}};
    for (int[] w : any) {
      number(w[0], w[1], 4096, 0, 1);
    }
    for (int[] w : none) {
      number(w[0], w[1], 0, 0, 1);
    }
    for (int[] w : five) {
      number(w[0], w[1], 0, 1, 0);
    }
    for (int[] w : far) {
      number(w[0], w[1], 0, 0, 1);
    }
  }

  private static void number(int bits, int v, int fits, int load, int judge) {
    TwinLights x = Due.told("ship at 5");
    x.sheet(0, bits, 1);
    x.write(0, 0, v);
    String call = " of " + v + " in " + bits + " bits";
    Due.is("fits()" + call, x.fits(0), fits);
    Due.is("load()" + call, x.load(0), load);
    Due.is("judge()" + call, x.judge(0), judge);
  }

  private static void missingAtFirst() {
    TwinLights x = Due.eight();
    for (int s = 0; s <= 3; s++) {
      Due.is("judge(" + s + ")", x.judge(s), Due.MISSING);
      Due.is("load(" + s + ")", x.load(s), Due.MISSING);
      Due.is("fits(" + s + ")", x.fits(s), Due.MISSING);
      Due.is("write(" + s + ", 0, 0)", x.write(s, 0, 0), Due.MISSING);
      Due.is("copy(" + s + ", 0, " + s + ", 0, 0)", x.copy(s, 0, s, 0, 0), Due.MISSING);
    }
  }
}
