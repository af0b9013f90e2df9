/** Promise by promise each sentence that names an edge: the least and the greatest, what is missing, empty, full, refused. */
public final class EdgesTest {
  private static final int MIN = Integer.MIN_VALUE, MAX = Integer.MAX_VALUE;
  private static final String STAYS = "turns 0;costs 1;yells 0;";
  private static int wrong = 0;
  private static String sentence = "";

  private interface Ask {
    long of(int v);
  }

  public static void main(String[] args) {
    aNewObject();
    count();
    feed();
    feedFull();
    text();
    force();
    asks();
    asksRefused();
    shower();
    set();
    told();
    at();
    day();
    rests();
    sways();
    house();
    pass();
    best();
    line();
    soon();
    card();
    even();
    hurts();
    off();
    stills();
    leave();
    judge();
    whose();
    fits();
    kinds();
    laws();
    film();
    criers();
    heard();
    drawn();
    odds();
    image();
    back();
    sheet();
    cell();
    copy();
    copyRefused();
    showersBy();
    showersByRefused();
    taken();
    System.out.println(wrong == 0 ? "all edges hold" : wrong + " answers are not as due");
    if (wrong != 0) System.exit(1);
  }

  // ---- how it is told

  private static void sentence(String s) {
    sentence = s;
  }

  private static void due(String call, long got, long want) {
    if (got == want) return;
    wrong++;
    System.out.println(sentence + ": " + call + " answered " + got + ", due is " + want);
  }

  private static void each(String call, long want, Ask ask, int... vs) {
    for (int v : vs) due(call + " with " + v, ask.of(v), want);
  }

  /** Those next to what is taken, those that a cut to fewer bits would bring back, and the ends of all ints. */
  private static void refusedBeyond(String call, int least, int most, long refusal, Ask ask) {
    each(call, refusal, ask, least - 1, most + 1, MIN, MIN + 1, MAX, MAX - 1, MIN + least, -65536 + least - 1, -100, 1 << 30, -1 << 30);
    for (int more : new int[] {256, 65536, 1 << 24}) {
      if (least + more > most) each(call, refusal, ask, least + more);
      each(call, refusal, ask, most - more < least ? most - more : least - more);
    }
  }

  /** None of them is refused. */
  private static void takenFrom(String call, int least, int most, long refusal, Ask ask) {
    for (int v = least; v <= most; v += most - least > 50 && v > least && v < most - 2 ? most - least - 3 : 1) {
      if (ask.of(v) == refusal) due(call + " with " + v, refusal, 0);
    }
  }

  // ---- what is made

  private static TooHotTooCold with(int... showers) {
    TooHotTooCold x = new TooHotTooCold();
    for (int i = 0; i + 2 < showers.length; i += 3) x.shower(showers[i], showers[i + 1], showers[i + 2]);
    return x;
  }

  private static void tape(TooHotTooCold x, String bytes) {
    for (int i = 0; i < bytes.length(); i++) x.feed(1, bytes.charAt(i), 0, 0, 0, 0);
  }

  private static int text(TooHotTooCold x, String bytes) {
    tape(x, bytes);
    return x.text();
  }

  private static TooHotTooCold under(String bytes, int... showers) {
    TooHotTooCold x = with(showers);
    due("the text " + bytes, text(x, bytes), 1);
    x.force(1);
    return x;
  }

  private static void row(TooHotTooCold x, int s, int sort, int... numbers) {
    due("a sheet", x.sheet(s, sort, numbers.length), 1);
    for (int i = 0; i < numbers.length; i++) due("a cell", x.cell(s, i, numbers[i]), 1);
  }

  private static String blanks(int n) {
    return " ".repeat(n);
  }

  private static int coldWas(int cold, int was) {
    return 2000 * (cold + 1000) + was + 1000;
  }

  /** Cell i of a sheet of a sort holds v (0 .. 999): shower 0 feels v in beat 0, as a sheet of that one cell tells. */
  private static void holds(TooHotTooCold x, int s, int sort, int i, int v) {
    int other = s == 3 ? 2 : 3;
    x.sheet(other, sort, 1);
    due("copy of " + i, x.copy(s, i, other, 0, 1), 1);
    x.set(0, 2, v);
    due("cell " + i + " of " + s + " as " + v, x.judge(other, 0), -1);
  }

  // ---- 1 to 6

  private static void aNewObject() {
    TooHotTooCold x = new TooHotTooCold();
    sentence("1 a new object: no showers");
    due("count(0)", x.count(0), 0);
    due("count(1)", x.count(1), 0);
    each("told", -5, v -> x.told(v, 0), 0, 1, 2, 3);
    each("taken", -11, v -> x.taken(v, 0), 0, 1, 2, 3, 4, 5, 6, 7);
    due("image()", x.image(), 0);
    sentence("1 a new object: text 0 is there, and the law");
    due("count(2)", x.count(2), 1);
    due("count(3)", x.count(3), 0);
    sentence("1 a new object: the tape is empty");
    due("count(4)", x.count(4), 0);
    due("text()", x.text(), -100);
    sentence("1 a new object: all sheets are missing");
    each("cell", -11, v -> x.cell(v, 0, 0), 0, 1, 2, 3);
    sentence("1 a new object: there is no image");
    due("back()", new TooHotTooCold().back(), -3);
    sentence("1 a new object: it has nothing of one that is used");
    TooHotTooCold used = under(STAYS, 10, 2, 3, 10, 2, 4, 10, 2, 5, 10, 2, 6);
    used.image();
    row(used, 0, 0, 1, 2, 3);
    tape(used, "abc");
    TooHotTooCold fresh = new TooHotTooCold();
    due("count(0)", fresh.count(0), 0);
    due("count(2)", fresh.count(2), 1);
    due("count(3)", fresh.count(3), 0);
    due("count(4)", fresh.count(4), 0);
    due("back()", fresh.back(), -3);
    due("cell(0, 0, 0)", fresh.cell(0, 0, 0), -11);
    due("shower(0, 0, 9)", fresh.shower(0, 0, 9), 0);
    due("told(0, 1)", used.told(0, 1), 3);
    due("used.count(0)", used.count(0), 4);
  }

  private static void count() {
    sentence("2 count: what 0, from no shower to four");
    TooHotTooCold x = new TooHotTooCold();
    for (int n = 0; n <= 4; n++) {
      due("count(0)", x.count(0), n);
      due("count(1)", x.count(1), (1 << n) - 1);
      x.shower(0, 0, 0);
    }
    due("count(0) when the fifth was refused", x.count(0), 4);
    sentence("2 count: what 1, which are on, from all to none");
    int bits = 15;
    for (int who : new int[] {3, 0, 2, 1}) {
      x.set(who, 4, 0);
      bits -= 1 << who;
      due("count(1)", x.count(1), bits);
      due("count(0)", x.count(0), 4);
    }
    sentence("2 count: what 2 and 3, from one text to six");
    for (int t = 1; t < 6; t++) {
      due("count(2)", x.count(2), t);
      due("the text", text(x, STAYS), t);
      due("count(3)", x.count(3), t - 1);
      x.force(t);
      due("count(3)", x.count(3), t);
    }
    due("count(2)", x.count(2), 6);
    sentence("2 count: what 4, from no byte to 160");
    for (int n = 0; n <= 160; n++) {
      due("count(4)", x.count(4), n);
      x.feed(1, 32, 0, 0, 0, 0);
    }
    due("count(4) when one was refused", x.count(4), 160);
    sentence("2 count: BAD is any other what");
    refusedBeyond("count", 0, 4, -2, v -> x.count(v));
    refusedBeyond("count", 0, 4, -2, v -> new TooHotTooCold().count(v));
  }

  private static void feed() {
    String all = "turns 7;costs 8;yells 9;";
    for (int n = 1; n <= 5; n++) {
      sentence("3 feed: the first " + n + " come, one by one");
      TooHotTooCold x = new TooHotTooCold();
      due("feed", x.feed(n, 't', 'u', 'r', 'n', 's'), n);
      due("count(4)", x.count(4), n);
      due("the text", text(x, all.substring(n)), 1);
      due("feed anew", x.feed(n, 0, 0, 0, 0, 0), n);
      due("feed behind", x.feed(n, 0, 0, 0, 0, 0), 2 * n);
    }
    sentence("3 feed: BAD is an n below 1 or above 5");
    TooHotTooCold x = new TooHotTooCold();
    refusedBeyond("feed", 1, 5, -2, v -> x.feed(v, 1, 1, 1, 1, 1));
    sentence("3 feed: BAD is any of the five that is no byte, also one that doesn't come");
    for (int n = 1; n <= 5; n++) {
      int many = n;
      refusedBeyond("a of " + n, 0, 255, -2, v -> x.feed(many, v, 1, 1, 1, 1));
      refusedBeyond("b of " + n, 0, 255, -2, v -> x.feed(many, 1, v, 1, 1, 1));
      refusedBeyond("c of " + n, 0, 255, -2, v -> x.feed(many, 1, 1, v, 1, 1));
      refusedBeyond("d of " + n, 0, 255, -2, v -> x.feed(many, 1, 1, 1, v, 1));
      refusedBeyond("e of " + n, 0, 255, -2, v -> x.feed(many, 1, 1, 1, 1, v));
    }
    due("count(4)", x.count(4), 0);
    sentence("3 feed: bytes from 0 to 255 are taken");
    due("0", x.feed(1, 0, 0, 0, 0, 0), 1);
    due("255", x.feed(5, 255, 255, 255, 255, 255), 6);
    due("0 and 255", x.feed(5, 0, 255, 0, 255, 0), 11);
    due("1 and 254", x.feed(2, 1, 254, 0, 255, 0), 13);
    due("128 and 127", x.feed(2, 128, 127, 0, 255, 0), 15);
    due("a byte of 0 is no blank", x.text(), -100);
  }

  private static void feedFull() {
    for (int n = 1; n <= 5; n++) {
      TooHotTooCold x = new TooHotTooCold();
      tape(x, blanks(160 - n));
      sentence("3 feed: " + n + " have just room");
      due("feed", x.feed(n, 32, 32, 32, 32, 32), 160);
      sentence("3 feed: FULL, none has room");
      due("feed", x.feed(n, 32, 32, 32, 32, 32), -4);
      x = new TooHotTooCold();
      tape(x, blanks(161 - n));
      sentence("3 feed: FULL, one of " + n + " has no room, and none comes");
      due("feed", x.feed(n, 'x', 'x', 'x', 'x', 'x'), -4);
      due("count(4)", x.count(4), 161 - n);
      due("text()", x.text(), -100 - (161 - n));
    }
    TooHotTooCold full = new TooHotTooCold();
    tape(full, blanks(160));
    sentence("3 feed: BAD is told ahead of FULL");
    each("n", -2, v -> full.feed(v, 1, 1, 1, 1, 1), 0, 6, -1, MIN, MAX);
    each("a", -2, v -> full.feed(1, v, 1, 1, 1, 1), -1, 256);
    each("b", -2, v -> full.feed(1, 1, v, 1, 1, 1), -1, 256);
    each("c", -2, v -> full.feed(1, 1, 1, v, 1, 1), -1, 256);
    each("d", -2, v -> full.feed(1, 1, 1, 1, v, 1), -1, 256);
    each("e", -2, v -> full.feed(1, 1, 1, 1, 1, v), -1, 256);
    due("count(4)", full.count(4), 160);
    sentence("3 feed: a tape that was full has room again");
    due("text()", full.text(), -260);
    due("feed", full.feed(5, 32, 32, 32, 32, 32), 5);
  }

  private static void text() {
    sentence("4 text: the tape is empty then");
    TooHotTooCold x = new TooHotTooCold();
    due("the text", text(x, "turns 1;costs 2;yells 3;"), 1);
    due("count(4)", x.count(4), 0);
    due("an empty tape", x.text(), -100);
    sentence("4 text: it isn't the law yet");
    due("count(3)", x.count(3), 0);
    sentence("4 text: by a fault, too, the tape is empty");
    due("a fault", text(x, "turns 1;costs 2;yells ;"), -122);
    due("count(4)", x.count(4), 0);
    due("count(2)", x.count(2), 2);
    due("the text", text(x, "turns 1;costs 2;yells 4;"), 2);
    sentence("4 text: a fault at the first byte, at the last, behind it");
    due("at 0", text(x, "?" + blanks(159)), -100);
    due("at 1", text(x, " ?" + blanks(158)), -101);
    due("at 159", text(x, blanks(159) + "?"), -259);
    due("at 158", text(x, blanks(158) + "? "), -258);
    due("the size, full", text(x, "turns" + blanks(155)), -260);
    due("the size, full, at the last", text(x, blanks(155) + "turns"), -260);
    due("the size", text(x, "turns 1;costs 2;yells 4"), -123);
    sentence("4 text: a text of 160 bytes");
    due("ahead", text(x, blanks(136) + "turns 1;costs 2;yells 4;"), 3);
    due("behind", text(x, "turns 1;costs 2;yells 4;" + blanks(136)), 4);
    sentence("4 text: the least text");
    due("the text", text(x, "turns 1;costs 1;yells 1;"), 5);
    sentence("4 text: FULL with six");
    due("an empty tape", x.text(), -4);
    tape(x, "turns 1;costs 2;yells 4");
    due("ahead of a fault", x.text(), -4);
    sentence("4 text: FULL, the tape stays");
    due("count(4)", x.count(4), 23);
    due("feed", x.feed(1, ';', 0, 0, 0, 0), 24);
    due("a text without fault", x.text(), -4);
    due("count(4)", x.count(4), 24);
    due("count(2)", x.count(2), 6);
    tape(x, blanks(136));
    due("a full tape", x.text(), -4);
    due("count(4)", x.count(4), 160);
  }

  private static void force() {
    sentence("5 force: which was, from 0 to 5");
    TooHotTooCold x = with(0, 0, 50);
    for (int t = 1; t < 6; t++) {
      each("a text that isn't there yet", -2, v -> x.force(v), t, t + 1, 5, 6);
      due("the text", text(x, "turns " + t + ";costs 1" + t + ";yells " + t + "=3;"), t);
      due("force(" + t + ")", x.force(t), t - 1);
    }
    int was = 5;
    for (int t : new int[] {0, 5, 3, 3, 1, 2, 4}) {
      due("force(" + t + ")", x.force(t), was);
      due("count(3)", x.count(3), t);
      due("turns", x.asks(0, coldWas(-30, 0), 0, 0, 0), t == 0 ? -30 : t);
      due("costs", x.asks(1, coldWas(-3, 0), 0, 0, 0), t == 0 ? 9 : 10 + t);
      due("yells", x.asks(2, coldWas(-30, 0), 0, 0, 0), t == 0 || t == 3 ? 1 : 0);
      was = t;
    }
    sentence("5 force: BAD is no text");
    refusedBeyond("force", 0, 5, -2, v -> x.force(v));
    due("count(3)", x.count(3), 4);
    refusedBeyond("force", 0, 0, -2, v -> new TooHotTooCold().force(v));
    sentence("5 force: a fault is no text");
    TooHotTooCold y = new TooHotTooCold();
    text(y, "turns 1;costs 1;yells 1;;");
    due("force(1)", y.force(1), -2);
    due("force(0)", y.force(0), 0);
  }

  private static void asks() {
    TooHotTooCold x = under("turns cold+950;costs was+950;yells set=999 or beat=29;", 0, 0, 0);
    sentence("6 asks: coldWas 0 is cold -1000 and was -1000");
    due("turns", x.asks(0, 0, 0, 0, 0), -50);
    due("costs", x.asks(1, 0, 0, 0, 0), 0);
    sentence("6 asks: coldWas 1999 and 2000, where was wraps around and cold goes on");
    due("turns 1999", x.asks(0, 1999, 0, 0, 0), -50);
    due("turns 2000", x.asks(0, 2000, 0, 0, 0), -49);
    due("turns 3999", x.asks(0, 3999, 0, 0, 0), -49);
    due("turns 4000", x.asks(0, 4000, 0, 0, 0), -48);
    due("costs 1999", x.asks(1, 1999, 0, 0, 0), 99);
    due("costs 2000", x.asks(1, 2000, 0, 0, 0), 0);
    due("costs 2050", x.asks(1, 2050, 0, 0, 0), 0);
    due("costs 2051", x.asks(1, 2051, 0, 0, 0), 1);
    TooHotTooCold most = under("turns cold-950;costs was-950;yells cold=999 and was=999;", 0, 0, 0);
    sentence("6 asks: coldWas 3999999 is cold 999 and was 999");
    due("turns", most.asks(0, 3999999, 0, 0, 0), 49);
    due("costs", most.asks(1, 3999999, 0, 0, 0), 49);
    due("yells", most.asks(2, 3999999, 0, 0, 0), 1);
    due("yells of 3999998", most.asks(2, 3999998, 0, 0, 0), 0);
    due("yells of 3997999", most.asks(2, 3997999, 0, 0, 0), 0);
    sentence("6 asks: cold and was of 0 are 2001000");
    TooHotTooCold none = under("turns cold;costs was;yells cold=0 and was=0;", 0, 0, 0);
    due("yells", none.asks(2, 2001000, 0, 0, 0), 1);
    due("yells", none.asks(2, 2000999, 0, 0, 0), 0);
    due("yells", none.asks(2, 2001001, 0, 0, 0), 0);
    sentence("6 asks: set from 0 to 999, beat from 0 to 29");
    due("999", x.asks(2, 0, 999, 0, 0), 1);
    due("998", x.asks(2, 0, 998, 0, 0), 0);
    due("29", x.asks(2, 0, 0, 29, 0), 1);
    due("28", x.asks(2, 0, 0, 28, 0), 0);
    TooHotTooCold least = under("turns set*10+beat;costs beat;yells set=0 and beat=0;", 0, 0, 0);
    due("0, 0", least.asks(2, 0, 0, 0, 0), 1);
    due("1, 0", least.asks(2, 0, 1, 0, 0), 0);
    due("0, 1", least.asks(2, 0, 0, 1, 0), 0);
    due("3, 4", least.asks(0, 0, 3, 4, 0), 34);
    sentence("6 asks: late and more are the shower's, also of one that is off");
    TooHotTooCold two = under("turns late*10+more;costs 1;yells 1;", 9, 0, 0, 50, 4, 0);
    due("0 and 9", two.asks(0, 0, 0, 0, 0), 9);
    due("4 and 0", two.asks(0, 0, 0, 0, 1), 40);
    two.set(1, 4, 0);
    two.set(1, 0, 1);
    due("1 and 0, off", two.asks(0, 0, 0, 0, 1), 10);
    sentence("6 asks: set is what is asked, not the shower's");
    TooHotTooCold own = under("turns set;costs 1;yells 1;", 0, 0, 0);
    own.set(0, 2, 77);
    due("turns", own.asks(0, 0, 5, 0, 0), 5);
  }

  private static void asksRefused() {
    TooHotTooCold x = with(0, 0, 0, 0, 0, 0);
    sentence("6 asks: -1000 is no such shower");
    refusedBeyond("x", 0, 1, -1000, v -> x.asks(0, 0, 0, 0, v));
    each("none there", -1000, v -> new TooHotTooCold().asks(0, 0, 0, 0, v), 0, 1, 3, 4, -1);
    sentence("6 asks: -1000 is told ahead of -2000");
    each("part", -1000, v -> x.asks(v, 0, 0, 0, 2), -1, 3);
    each("coldWas", -1000, v -> x.asks(0, v, 0, 0, 2), -1, 4000000);
    each("set", -1000, v -> x.asks(0, 0, v, 0, 2), -1, 1000);
    each("beat", -1000, v -> x.asks(0, 0, 0, v, 2), -1, 30);
    sentence("6 asks: -2000 is a part below 0 or above 2");
    refusedBeyond("part", 0, 2, -2000, v -> x.asks(v, 0, 0, 0, 1));
    takenFrom("part", 0, 2, -2000, v -> x.asks(v, 0, 0, 0, 1));
    sentence("6 asks: -2000 is a coldWas below 0 or above 3999999");
    refusedBeyond("coldWas", 0, 3999999, -2000, v -> x.asks(0, v, 0, 0, 1));
    takenFrom("coldWas", 0, 3999999, -2000, v -> x.asks(0, v, 0, 0, 1));
    sentence("6 asks: -2000 is a set below 0 or above 999");
    refusedBeyond("set", 0, 999, -2000, v -> x.asks(0, 0, v, 0, 1));
    takenFrom("set", 0, 999, -2000, v -> x.asks(0, 0, v, 0, 1));
    sentence("6 asks: -2000 is a beat below 0 or above 29");
    refusedBeyond("beat", 0, 29, -2000, v -> x.asks(0, 0, 0, v, 1));
    takenFrom("beat", 0, 29, -2000, v -> x.asks(0, 0, 0, v, 1));
  }

  // ---- 7 to 9

  private static void shower() {
    sentence("7 shower: its number, from 0 to 3");
    TooHotTooCold x = new TooHotTooCold();
    for (int n = 0; n < 4; n++) due("shower", x.shower(10 * n + n, n, 100 * n), n);
    sentence("7 shower: FULL with four");
    each("shower", -4, v -> x.shower(v, 0, 0), 0, 59);
    due("count(0)", x.count(0), 4);
    sentence("7 shower: BAD is told ahead of FULL");
    each("kindMore", -2, v -> x.shower(v, 0, 0), -1, 60);
    each("so", -2, v -> x.shower(0, v, 0), -1, 5);
    each("warm", -2, v -> x.shower(0, 0, v), -1, 1000);
    sentence("7 shower: kindMore from 0 to 59 is 10 times kind, and more");
    for (int k = 0; k < 60; k++) {
      TooHotTooCold y = new TooHotTooCold();
      due("shower", y.shower(k, 0, 0), 0);
      due("told(0, 5)", y.told(0, 5), k / 10);
      due("told(0, 6)", y.told(0, 6), k % 10);
    }
    TooHotTooCold empty = new TooHotTooCold();
    refusedBeyond("kindMore", 0, 59, -2, v -> empty.shower(v, 0, 0));
    sentence("7 shower: late from 0 to 4");
    refusedBeyond("so", 0, 4, -2, v -> empty.shower(0, v, 0));
    for (int late = 0; late < 5; late++) due("told(0, 0)", with(0, late, 0).told(0, 0), late);
    sentence("7 shower: wanted from 0 to 999");
    refusedBeyond("warm", 0, 999, -2, v -> empty.shower(0, 0, v));
    for (int warm : new int[] {0, 1, 998, 999}) due("told(0, 1)", with(0, 0, warm).told(0, 1), warm);
    due("count(0)", empty.count(0), 0);
    sentence("7 shower: set 0, haste 8, on at first");
    due("set", with(59, 4, 999).told(0, 2), 0);
    due("haste", with(59, 4, 999).told(0, 3), 8);
    due("on", with(59, 4, 999).told(0, 4), 1);
  }

  private static void set() {
    int[] most = {4, 999, 999, 16, 1}, first = {2, 500, 0, 8, 1};
    String[] names = {"late", "wanted", "set", "haste", "on"};
    for (int w = 0; w < 5; w++) {
      int what = w;
      TooHotTooCold x = with(0, 1, 1, 13, 2, 500, 0, 3, 3);
      sentence("8 set: " + names[w] + " from 0 to " + most[w] + ": what it was");
      due("the greatest", x.set(1, w, most[w]), first[w]);
      due("told", x.told(1, w), most[w]);
      due("the least", x.set(1, w, 0), most[w]);
      due("told", x.told(1, w), 0);
      due("as it is", x.set(1, w, 0), 0);
      due("one more", x.set(1, w, 1), 0);
      due("told", x.told(1, w), 1);
      sentence("8 set: -7 is " + names[w] + " below 0 or above " + most[w]);
      refusedBeyond("v", 0, most[w], -7, v -> x.set(1, what, v));
      due("told", x.told(1, w), 1);
      sentence("8 set: the others stay");
      due("told(0, 1)", x.told(0, 1), 1);
      due("told(2, 1)", x.told(2, 1), 3);
      for (int other = 0; other < 5; other++) {
        if (other != w) due("told(1, " + other + ")", x.told(1, other), first[other]);
      }
    }
    TooHotTooCold x = with(0, 0, 0, 0, 0, 0);
    sentence("8 set: -7 is a what below 0 or above 4");
    refusedBeyond("what", 0, 4, -7, v -> x.set(0, v, 0));
    sentence("8 set: -5 is no such shower");
    refusedBeyond("x", 0, 1, -5, v -> x.set(v, 0, 0));
    each("none there", -5, v -> new TooHotTooCold().set(v, 0, 0), 0, 1, 3, 4);
    sentence("8 set: -5 is told ahead of -7");
    each("what", -5, v -> x.set(2, v, 0), -1, 5);
    each("v", -5, v -> x.set(2, 0, v), -1, 5);
  }

  private static void told() {
    TooHotTooCold x = with(47, 3, 77, 0, 0, 0);
    sentence("9 told: what from 0 to 7");
    int[] want = {3, 77, 0, 8, 1, 4, 7, 50};
    for (int what = 0; what < 8; what++) due("told(0, " + what + ")", x.told(0, what), want[what]);
    sentence("9 told: -7 is another what");
    refusedBeyond("what", 0, 7, -7, v -> x.told(0, v));
    sentence("9 told: -5 is no such shower");
    refusedBeyond("x", 0, 1, -5, v -> x.told(v, 0));
    each("none there", -5, v -> new TooHotTooCold().told(v, 0), 0, 1, 3, 4);
    sentence("9 told: -5 is told ahead of -7");
    each("what", -5, v -> x.told(2, v), -1, 8);
    sentence("9 told: by how much too hot it scalds, with the least and the most more");
    int[] least = {50, 50, 50, 50, 50, 50}, most = {50, 50, 50, 140, 50, 14};
    for (int kind = 0; kind < 6; kind++) {
      due("kind " + kind + ", 0", with(10 * kind, 0, 0).told(0, 7), least[kind]);
      due("kind " + kind + ", 9", with(10 * kind + 9, 0, 0).told(0, 7), most[kind]);
    }
    due("a boiler of 1", with(31, 0, 0).told(0, 7), 60);
    due("an old one of 1", with(51, 0, 0).told(0, 7), 46);
  }

  // ---- 10 to 15

  private static void at() {
    TooHotTooCold x = under("turns 3;costs 1;yells 0;", 0, 0, 50, 0, 1, 60);
    sentence("10 at: the first and the last beat");
    due("felt, 0", x.at(0, 0, 0), 0);
    due("felt, 29", x.at(0, 29, 0), 87);
    due("felt late, 29", x.at(1, 29, 0), 84);
    due("set as it ends, 0", x.at(0, 0, 1), 3);
    due("set as it ends, 29", x.at(0, 29, 1), 90);
    due("wanted less felt, 0", x.at(1, 0, 2), 60);
    due("wanted less felt, 29", x.at(1, 29, 2), -24);
    sentence("10 at: -200000 is a beat below 0 or above 29");
    refusedBeyond("beat", 0, 29, -200000, v -> x.at(0, v, 0));
    refusedBeyond("beat", 0, 29, -200000, v -> x.at(0, v, 1));
    takenFrom("beat", 0, 29, -200000, v -> x.at(0, v, 1));
    sentence("10 at: -200000 is a what below 0 or above 2");
    refusedBeyond("what", 0, 2, -200000, v -> x.at(0, 29, v));
    sentence("10 at: -100000 is no such shower");
    refusedBeyond("x", 0, 1, -100000, v -> x.at(v, 0, 0));
    each("none there", -100000, v -> new TooHotTooCold().at(v, 0, 0), 0, 1, 3, 4);
    sentence("10 at: -100000 is told ahead of -200000");
    each("beat", -100000, v -> x.at(2, v, 0), -1, 30);
    each("what", -100000, v -> x.at(2, 0, v), -1, 3);
  }

  private static void day() {
    TooHotTooCold x = under("turns 0-5;costs 1+(beat=0)*2+(beat=29)*7;yells beat=0 or beat=29;", 0, 0, 50, 0, 0, 50);
    sentence("11 day: of the first beat and of the last one");
    due("cost", x.day(0, 0), 28 + 3 + 8);
    due("cries", x.day(0, 1), 1 + (1 << 29));
    sentence("11 day: it is never scalded, or once");
    due("never", x.day(0, 2), 0);
    x.set(0, 2, 100);
    due("once", x.day(0, 2), 1);
    x.set(0, 2, 105);
    due("twice", x.day(0, 2), 2);
    sentence("11 day: the most felt stands in the first beat, or in the last");
    due("the first", x.day(0, 3), 105);
    due("never warm", x.day(1, 3), 0);
    TooHotTooCold up = under("turns 9;costs 0;yells 0;", 0, 0, 0);
    due("the last", up.day(0, 3), 29 * 9);
    sentence("11 day: cost of nothing");
    due("cost", up.day(0, 0), 0);
    due("cries", up.day(0, 1), 0);
    sentence("11 day: the greatest cost");
    due("cost", under("turns 0;costs 9999;yells 1;", 0, 0, 0).day(0, 0), 30 * 99);
    due("cries", under("turns 0;costs 9999;yells 1;", 0, 0, 0).day(0, 1), 1073741823);
    sentence("11 day: -7 is a what below 0 or above 3");
    refusedBeyond("what", 0, 3, -7, v -> x.day(0, v));
    takenFrom("what", 0, 3, -7, v -> x.day(0, v));
    sentence("11 day: -5 is no such shower");
    refusedBeyond("x", 0, 1, -5, v -> x.day(v, 0));
    each("none there", -5, v -> new TooHotTooCold().day(v, 0), 0, 1, 3, 4);
    sentence("11 day: -5 is told ahead of -7");
    each("what", -5, v -> x.day(2, v), -1, 4);
  }

  private static void rests() {
    TooHotTooCold still = under(STAYS, 0, 0, 50);
    sentence("12 rests: so much apart it rests, one more and it doesn't");
    for (int apart : new int[] {0, 1, 49, 50}) {
      for (int set : new int[] {50 - apart, 50 + apart}) {
        still.set(0, 2, set);
        due("near " + apart + ", set " + set, still.rests(0, apart), 0);
        if (apart > 0) due("near " + (apart - 1) + ", set " + set, still.rests(0, apart - 1), -1);
      }
    }
    sentence("12 rests: within 999 always");
    TooHotTooCold far = under(STAYS, 0, 0, 999);
    due("999 apart, 999", far.rests(0, 999), 0);
    due("999 apart, 998", far.rests(0, 998), -1);
    far.set(0, 1, 0);
    far.set(0, 2, 999);
    due("999 too hot, 999", far.rests(0, 999), 0);
    due("999 too hot, 998", far.rests(0, 998), -1);
    sentence("12 rests: in the last beat alone");
    due("29", under("turns (beat=28)*9;costs 0;yells 0;", 0, 0, 9).rests(0, 0), 29);
    sentence("12 rests: but for the last beat: it doesn't");
    due("-1", under("turns (beat=28)*9;costs 0;yells 0;", 0, 0, 0).rests(0, 8), -1);
    sentence("12 rests: but for the first beat");
    due("1", under("turns (beat=0)*9;costs 0;yells 0;", 0, 0, 9).rests(0, 0), 1);
    sentence("12 rests: behind the last beat that is farther apart, whatever stood ahead");
    TooHotTooCold sways = under("turns (beat=9)*9-(beat=19)*9;costs 0;yells 0;", 0, 0, 0);
    due("0, 9, 0", sways.rests(0, 8), 20);
    due("0, 9, 0 within 9", sways.rests(0, 9), 0);
    sentence("12 rests: -7 is a near below 0 or above 999");
    refusedBeyond("near", 0, 999, -7, v -> still.rests(0, v));
    takenFrom("near", 0, 999, -7, v -> still.rests(0, v));
    sentence("12 rests: -5 is no such shower");
    refusedBeyond("x", 0, 0, -5, v -> still.rests(v, 0));
    each("none there", -5, v -> new TooHotTooCold().rests(v, 0), 0, 1, 3, 4);
    sentence("12 rests: -5 is told ahead of -7");
    each("near", -5, v -> still.rests(1, v), -1, 1000);
  }

  private static void sways() {
    sentence("13 sways: beat 20 counts, beat 19 doesn't");
    due("19 to 20", under("turns (beat=19)*9;costs 0;yells 0;", 0, 0, 0).sways(0), 0);
    due("20 to 21", under("turns (beat=20)*9;costs 0;yells 0;", 0, 0, 0).sways(0), 9);
    sentence("13 sways: beat 29 counts, what comes behind it doesn't");
    due("28 to 29", under("turns (beat=28)*9;costs 0;yells 0;", 0, 0, 0).sways(0), 9);
    due("29 to 30", under("turns (beat=29)*9;costs 0;yells 0;", 0, 0, 0).sways(0), 0);
    sentence("13 sways: nothing, and all there is");
    TooHotTooCold x = under("turns (beat=20)*99+(beat=21)*99+(beat=22)*99+(beat=23)*99+(beat=24)*99+(beat=25)*99;costs 0;yells 0;", 0, 0, 0);
    due("haste 8", x.sways(0), 594);
    x.set(0, 3, 16);
    due("haste 16", x.sways(0), 999);
    x.set(0, 3, 0);
    due("haste 0", x.sways(0), 0);
    sentence("13 sways: -5 is no such shower");
    refusedBeyond("x", 0, 0, -5, v -> x.sways(v));
    each("none there", -5, v -> new TooHotTooCold().sways(v), 0, 1, 3, 4);
  }

  private static void house() {
    sentence("14 house: nobody is there");
    due("cost", new TooHotTooCold().house(0), 0);
    due("who cries", new TooHotTooCold().house(1), 0);
    due("the beat", new TooHotTooCold().house(2), -1);
    sentence("14 house: nobody ever cries: -1");
    due("the beat", under(STAYS, 0, 0, 9, 0, 0, 9).house(2), -1);
    due("who cries", under(STAYS, 0, 0, 9, 0, 0, 9).house(1), 0);
    sentence("14 house: who cries at all, the first and the last shower");
    TooHotTooCold x = under("turns 0;costs late;yells late<1 or late=3 and beat=29;", 0, 0, 0, 0, 1, 0, 0, 2, 0, 0, 3, 0);
    due("who cries", x.house(1), 9);
    sentence("14 house: cost of all together");
    due("cost", x.house(0), 30 * (0 + 1 + 2 + 3));
    sentence("14 house: the beat in which most cry, the last one");
    due("the beat", x.house(2), 29);
    sentence("14 house: of like ones the first");
    x.set(3, 0, 4);
    due("the beat", x.house(2), 0);
    TooHotTooCold later = under("turns 0;costs 0;yells beat=late+7 or beat=20+late;", 0, 0, 0, 0, 1, 0, 0, 1, 0);
    due("the beat", later.house(2), 8);
    sentence("14 house: one that is off neither cries nor costs");
    x.set(0, 4, 0);
    due("who cries", x.house(1), 0);
    due("the beat", x.house(2), -1);
    x.set(2, 4, 0);
    due("cost", x.house(0), 30 * (1 + 4));
    sentence("14 house: BAD is a what below 0 or above 2");
    refusedBeyond("what", 0, 2, -2, v -> x.house(v));
    refusedBeyond("what", 0, 2, -2, v -> new TooHotTooCold().house(v));
    takenFrom("what", 0, 2, -2, v -> x.house(v));
  }

  private static void pass() {
    sentence("15 pass: no beats: nothing costs, nothing is set");
    TooHotTooCold x = under("turns 2;costs beat+1;yells 0;", 0, 0, 0, 0, 4, 0);
    due("pass(0)", x.pass(0), 0);
    due("told(0, 2)", x.told(0, 2), 0);
    sentence("15 pass: one beat");
    due("pass(1)", x.pass(1), 2);
    due("told(0, 2)", x.told(0, 2), 2);
    sentence("15 pass: it begins anew, beats count from 0");
    due("pass(2)", x.pass(2), 2 * 3);
    due("told(1, 2)", x.told(1, 2), 6);
    sentence("15 pass: what comes begins anew");
    due("felt late", x.at(1, 0, 0), 6);
    due("felt late", x.at(1, 4, 0), 6);
    due("felt late", x.at(1, 5, 0), 8);
    sentence("15 pass: all thirty");
    due("pass(30)", x.pass(30), 2 * 465);
    due("told(0, 2)", x.told(0, 2), 66);
    sentence("15 pass: all but one");
    due("pass(29)", x.pass(29), 2 * 435);
    due("told(0, 2)", x.told(0, 2), 124);
    sentence("15 pass: one that is off neither costs nor is turned");
    x.set(1, 4, 0);
    due("pass(3)", x.pass(3), 6);
    due("told(0, 2)", x.told(0, 2), 130);
    due("told(1, 2)", x.told(1, 2), 124);
    sentence("15 pass: BAD is an n below 0 or above 30");
    refusedBeyond("n", 0, 30, -2, v -> x.pass(v));
    refusedBeyond("n", 0, 30, -2, v -> new TooHotTooCold().pass(v));
    takenFrom("n", 0, 30, -2, v -> x.pass(v));
    sentence("15 pass: nobody is there");
    due("pass(0)", new TooHotTooCold().pass(0), 0);
    due("pass(30)", new TooHotTooCold().pass(30), 0);
  }

  // ---- 16 to 20

  /** From beat 1 on each is set as high as its haste. */
  private static final String ONCE = "turns (beat=0)*8;costs set;yells 0;";

  private static TooHotTooCold once(String costs, int... showers) {
    return under("turns (beat=0)*8;costs " + costs + ";yells 0;", showers);
  }

  private static void best() {
    sentence("16 best: haste 0 is one of them");
    TooHotTooCold x = once("set", 0, 0, 0, 0, 0, 0);
    due("haste", x.best(0, 0), 0);
    due("cost", x.best(0, 1), 0);
    sentence("16 best: haste 16 is one of them, and none above it");
    x = once("(17-set)*(beat<2)", 0, 0, 0, 0, 0, 0);
    due("haste", x.best(0, 0), 16);
    due("cost", x.best(0, 1), 17 + 1);
    sentence("16 best: of like ones the least");
    x = once("not(set=3 or set=5 or set=16)", 0, 0, 0, 0, 0, 0);
    due("haste", x.best(0, 0), 3);
    due("cost", x.best(0, 1), 1);
    x = once("5", 0, 0, 0, 0, 0, 0);
    x.set(0, 3, 9);
    due("all alike", x.best(0, 0), 0);
    due("all alike", x.best(0, 1), 150);
    sentence("16 best: it is one's own cost, were it one's own haste");
    x = under("turns (beat=0)*8;costs set*late;yells 0;", 10, 0, 0, 0, 1, 0);
    due("the other costs more", x.best(0, 0), 0);
    due("the other's haste stays", x.best(1, 1), 0);
    x.set(0, 3, 16);
    due("the first costs nothing", x.best(0, 1), 0);
    sentence("16 best: one that is off costs nothing, haste 0");
    x.set(1, 4, 0);
    due("haste", x.best(1, 0), 0);
    due("cost", x.best(1, 1), 0);
    sentence("16 best: -7 is a what below 0 or above 1");
    TooHotTooCold y = x;
    refusedBeyond("what", 0, 1, -7, v -> y.best(0, v));
    sentence("16 best: -5 is no such shower");
    refusedBeyond("x", 0, 1, -5, v -> y.best(v, 0));
    each("none there", -5, v -> new TooHotTooCold().best(v, 0), 0, 1, 3, 4);
    sentence("16 best: -5 is told ahead of -7");
    each("what", -5, v -> y.best(2, v), -1, 2);
  }

  private static void line() {
    sentence("17 line: the greatest haste of all, 16");
    due("wanted 16", under(ONCE, 0, 0, 16).line(0, 0), 16);
    due("wanted 17 within 1", under(ONCE, 0, 0, 17).line(0, 1), 16);
    sentence("17 line: the least haste of all, 0");
    due("wanted 0", under(ONCE, 0, 0, 0).line(0, 0), 0);
    sentence("17 line: -1: there is none");
    due("wanted 17", under(ONCE, 0, 0, 17).line(0, 0), -1);
    due("wanted 999", under(ONCE, 0, 0, 999).line(0, 982), -1);
    due("wanted 999 within 983", under(ONCE, 0, 0, 999).line(0, 983), 16);
    sentence("17 line: the greatest one, if there are several, and gaps");
    due("wanted 8 within 3", under(ONCE, 0, 0, 8).line(0, 3), 11);
    due("a gap", under("turns (beat=0)*8+(beat=1)*(set=13)*(0-9);costs 0;yells 0;", 0, 0, 4).line(0, 1), 5);
    due("behind a gap", under("turns (beat=0)*8+(beat=1)*(set=13)*(0-5);costs 0;yells 0;", 0, 0, 4).line(0, 1), 13);
    sentence("17 line: within 999 always");
    TooHotTooCold x = under(ONCE, 0, 0, 999);
    due("near 999", x.line(0, 999), 16);
    sentence("17 line: -7 is a near below 0 or above 999");
    refusedBeyond("near", 0, 999, -7, v -> x.line(0, v));
    takenFrom("near", 0, 999, -7, v -> x.line(0, v));
    sentence("17 line: -5 is no such shower");
    refusedBeyond("x", 0, 0, -5, v -> x.line(v, 0));
    each("none there", -5, v -> new TooHotTooCold().line(v, 0), 0, 1, 3, 4);
    sentence("17 line: -5 is told ahead of -7");
    each("near", -5, v -> x.line(1, v), -1, 1000);
  }

  private static void soon(String call, TooHotTooCold x, int near, int haste, int beat) {
    due(call + ", haste", x.soon(0, near, 0), haste);
    due(call + ", beat", x.soon(0, near, 1), beat);
  }

  private static void soon() {
    sentence("18 soon: the earliest beat, ahead of the least haste");
    soon("16 is soonest", under("turns (set<16)*8;costs 0;yells 0;", 0, 0, 16), 0, 16, 1);
    sentence("18 soon: of like ones the least");
    soon("5 to 11", under(ONCE, 0, 0, 8), 3, 5, 1);
    sentence("18 soon: beat 0, haste 0");
    soon("wanted 3 within 3", under(ONCE, 0, 0, 3), 3, 0, 0);
    soon("within 999", under(ONCE, 0, 0, 999), 999, 0, 0);
    sentence("18 soon: beat 29");
    soon("the last beat", under("turns (beat=28)*8;costs 0;yells 0;", 0, 0, 16), 0, 16, 29);
    sentence("18 soon: haste 16 alone");
    soon("wanted 16", under(ONCE, 0, 0, 16), 0, 16, 1);
    sentence("18 soon: -1: there is none");
    soon("wanted 17", under(ONCE, 0, 0, 17), 0, -1, -1);
    soon("off", off(under(ONCE, 0, 0, 16), 0), 15, -1, -1);
    TooHotTooCold x = under(ONCE, 0, 0, 17);
    sentence("18 soon: -7 is a near below 0 or above 999");
    refusedBeyond("near", 0, 999, -7, v -> x.soon(0, v, 0));
    takenFrom("near", 0, 999, -7, v -> x.soon(0, v, 0));
    sentence("18 soon: -7 is a what below 0 or above 1");
    refusedBeyond("what", 0, 1, -7, v -> x.soon(0, 5, v));
    sentence("18 soon: -7, though there is none");
    refusedBeyond("what", 0, 1, -7, v -> x.soon(0, 0, v));
    sentence("18 soon: -5 is no such shower");
    refusedBeyond("x", 0, 0, -5, v -> x.soon(v, 0, 0));
    each("none there", -5, v -> new TooHotTooCold().soon(v, 0, 0), 0, 1, 3, 4);
    sentence("18 soon: -5 is told ahead of -7");
    each("near", -5, v -> x.soon(1, v, 0), -1, 1000);
    each("what", -5, v -> x.soon(1, 0, v), -1, 2);
  }

  private static TooHotTooCold off(TooHotTooCold x, int who) {
    x.set(who, 4, 0);
    return x;
  }

  private static void card(String call, TooHotTooCold x, int haste, int cost) {
    due(call + ", haste", x.card(0), haste);
    due(call + ", cost", x.card(1), cost);
  }

  private static void card() {
    sentence("19 card: haste 0 and haste 16 are among them");
    card("0", once("set", 0, 0, 0, 0, 0, 0), 0, 0);
    card("16", once("(17-set)*(beat<2)", 0, 0, 0, 0, 0, 0), 16, 2 * 18);
    sentence("19 card: of like ones the least");
    card("3, 5, 16", once("not(set=3 or set=5 or set=16)", 0, 0, 0, 0, 0, 0), 3, 2);
    card("all", once("2", 0, 0, 0), 0, 60);
    sentence("19 card: the cost of all together, not of one");
    card("one pulls up, two down", once("(set+late)*(beat=1)*(late=0)+(16-set)*(late=2)*(beat=1)", 0, 0, 0, 0, 0, 0, 0, 2, 0), 0, 16);
    card("two pull up, one down", once("(set+late)*(beat=1)*(late=0)+(16-set)*(late=2)*(beat=1)", 0, 2, 0, 0, 0, 0, 0, 2, 0), 16, 16);
    sentence("19 card: everybody's, also the last one's");
    TooHotTooCold x = once("(16-set)*(beat=1)", 0, 0, 0, 0, 0, 0, 0, 0, 0, 0, 0, 0);
    for (int who = 0; who < 4; who++) x.set(who, 3, who);
    card("four", x, 16, 0);
    for (int who = 0; who < 4; who++) due("told(" + who + ", 3)", x.told(who, 3), who);
    sentence("19 card: one that is off does not cost");
    card("two off", off(off(once("(set+late)*(beat=1)*(late=0)+(16-set)*(late=2)*(beat=1)", 0, 0, 0, 0, 0, 0, 0, 2, 0), 0), 1), 16, 0);
    sentence("19 card: nobody is there");
    card("none", new TooHotTooCold(), 0, 0);
    sentence("19 card: BAD is a what below 0 or above 1");
    refusedBeyond("what", 0, 1, -2, v -> x.card(v));
    refusedBeyond("what", 0, 1, -2, v -> new TooHotTooCold().card(v));
  }

  private static void even(String call, TooHotTooCold x, int one, int two, int changes, int hastes) {
    due(call + ", turns", x.even(one, two, 0), changes);
    due(call + ", hastes", x.even(one, two, 1), hastes);
  }

  /** Each wants to be as high as the other, the second one stands a little higher: step by step both rise to an end. */
  private static TooHotTooCold race(int end, int first, int second) {
    TooHotTooCold x = under("turns (beat=0)*16;costs set-100+50*(set+cold)*(set<" + end + ");yells 0;", 10, 0, 0, 10, 0, 0);
    x.set(0, 2, 100);
    x.set(1, 2, 101);
    x.set(0, 3, first);
    x.set(1, 3, second);
    return x;
  }

  private static void even() {
    sentence("20 even: none changes");
    even("alike", with(0, 0, 50, 0, 0, 50), 0, 1, 0, 808);
    sentence("20 even: one changes, the first or the second");
    TooHotTooCold x = with(0, 0, 50, 0, 0, 50);
    x.set(0, 3, 7);
    even("the first", x, 0, 1, 1, 808);
    even("the second", x, 1, 0, 1, 808);
    sentence("20 even: both change");
    x.set(1, 3, 16);
    even("both", x, 0, 1, 2, 808);
    sentence("20 even: 100 times the haste of x, and of y");
    even("9 and 0", once("(set<9)*(late<1)+set*late", 0, 0, 0, 0, 1, 0), 0, 1, 2, 900);
    even("0 and 9", once("(set<9)*(late<1)+set*late", 0, 0, 0, 0, 1, 0), 1, 0, 2, 9);
    even("16 and 16", once("(set<16)", 0, 0, 0, 0, 1, 0), 1, 0, 2, 1616);
    sentence("20 even: twenty turns at most, the last two unchanged");
    even("ended in turn 20", race(132, 0, 7), 0, 1, 18, 1616);
    sentence("20 even: one turn more would be too much");
    even("not ended in turn 20", race(132, 0, 6), 0, 1, -1, -1);
    sentence("20 even: x goes first");
    even("x first", race(132, 0, 8), 0, 1, 16, 1616);
    even("the other first", race(132, 0, 8), 1, 0, -1, -1);
    even("x first", race(132, 8, 7), 0, 1, 17, 1616);
    sentence("20 even: one that is off has haste 0 as its best");
    even("off", off(with(0, 0, 50, 0, 0, 50), 0), 0, 1, 1, 8);
    TooHotTooCold two = with(0, 0, 50, 0, 0, 50);
    sentence("20 even: -5 is no such two, the first or the second");
    refusedBeyond("x", 0, 1, -5, v -> two.even(v, 0, 0));
    refusedBeyond("y", 0, 1, -5, v -> two.even(0, v, 0));
    sentence("20 even: -5 is one that is told twice");
    each("alike", -5, v -> two.even(v, v, 0), 0, 1, 2, -1, MAX);
    sentence("20 even: -7 is a what below 0 or above 1");
    refusedBeyond("what", 0, 1, -7, v -> two.even(0, 1, v));
    refusedBeyond("what, though it doesn't end", 0, 1, -7, v -> race(132, 0, 6).even(0, 1, v));
    sentence("20 even: -5 is told ahead of -7");
    each("what", -5, v -> two.even(1, 1, v), -1, 2);
    each("what", -5, v -> two.even(2, 1, v), -1, 2);
    each("what", -5, v -> two.even(1, 2, v), -1, 2);
  }

  // ---- 21 to 24

  private static void hurts() {
    sentence("21 hurts: one set higher by one hurts, one set alike doesn't");
    TooHotTooCold x = under("turns 0;costs cold;yells 0;", 10, 0, 50, 0, 0, 0, 0, 0, 0, 0, 0, 0);
    x.set(0, 2, 20);
    x.set(1, 2, 20);
    due("alike", x.hurts(1, 0), 0);
    x.set(1, 2, 21);
    due("higher", x.hurts(1, 0), 30);
    sentence("21 hurts: it may help");
    x.set(0, 1, 19);
    text(x, "turns 0;costs 0-cold;yells 0;");
    x.force(2);
    x.set(1, 2, 20);
    due("neither", x.hurts(1, 0), 0);
    x.set(1, 2, 21);
    due("it helps", x.hurts(1, 0), -30);
    sentence("21 hurts: one that is off neither hurts nor is hurt");
    x.set(1, 4, 0);
    due("the one", x.hurts(1, 0), 0);
    x.set(1, 4, 1);
    x.set(0, 4, 0);
    due("the other", x.hurts(1, 0), 0);
    sentence("21 hurts: -100000 is no such two, the first or the second");
    refusedBeyond("x", 0, 3, -100000, v -> x.hurts(v, 0));
    refusedBeyond("y", 0, 3, -100000, v -> x.hurts(0, v));
    each("none there", -100000, v -> new TooHotTooCold().hurts(0, v), 0, 1, 3);
    sentence("21 hurts: -100000 is one that is told twice");
    each("alike", -100000, v -> x.hurts(v, v), 0, 1, 2, 3, 4, -1, MIN);
  }

  private static void off(String call, TooHotTooCold x, int who, int cost) {
    due(call + ", who", x.off(0), who);
    due(call + ", cost", x.off(1), cost);
  }

  private static void off() {
    sentence("22 off: the one that is on is the one, nothing is left");
    off("one", under("turns 0;costs 3;yells 0;", 0, 0, 0), 0, 0);
    sentence("22 off: the last of four, and the first");
    String late = "turns 0;costs late;yells 0;";
    off("the last", under(late, 0, 0, 0, 0, 1, 0, 0, 2, 0, 0, 3, 0), 3, 90);
    off("the first", under(late, 0, 3, 0, 0, 1, 0, 0, 2, 0, 0, 0, 0), 0, 90);
    sentence("22 off: were it not on, the others would cost less, or more");
    TooHotTooCold shares = under("turns 0;costs cold+1;yells 0;", 14, 0, 50, 14, 0, 50, 0, 0, 51);
    for (int who = 0; who < 3; who++) shares.set(who, 2, shares.told(who, 1));
    off("not who costs most, but who makes others dear", shares, 2, 30 * 2);
    sentence("22 off: of like ones the first");
    off("alike", under(late, 0, 0, 0, 0, 2, 0, 0, 2, 0, 0, 1, 0), 1, 90);
    off("costing nothing", under(late, 0, 0, 0, 0, 0, 0), 0, 0);
    sentence("22 off: one that isn't on is none of them");
    off("the first on", off(under(late, 0, 0, 0, 0, 0, 0), 0), 1, 0);
    off("the dearest isn't on", off(under(late, 0, 1, 0, 0, 2, 0, 0, 4, 0), 2), 1, 30);
    sentence("22 off: -1: none is on");
    off("both off", off(off(under(late, 0, 1, 0, 0, 2, 0), 0), 1), -1, -1);
    sentence("22 off: -1: none is there");
    off("none", new TooHotTooCold(), -1, -1);
    sentence("22 off: BAD is a what below 0 or above 1");
    TooHotTooCold x = with(0, 0, 0);
    refusedBeyond("what", 0, 1, -2, v -> x.off(v));
    sentence("22 off: BAD, though none is on");
    refusedBeyond("what", 0, 1, -2, v -> new TooHotTooCold().off(v));
    refusedBeyond("what", 0, 1, -2, v -> off(with(0, 0, 0), 0).off(v));
  }

  private static void stills() {
    sentence("23 stills: there are no others");
    due("alone", with(0, 0, 50).stills(0), 0);
    sentence("23 stills: they'd cost more, or less");
    TooHotTooCold x = under("turns late*(beat=0);costs cold;yells 0;", 10, 0, 50, 0, 3, 0);
    x.set(0, 2, 20);
    x.set(1, 2, 18);
    x.set(1, 3, 8);
    due("it comes to be higher in beat 1", x.stills(1), -29);
    due("were the lower still", x.stills(0), 0);
    TooHotTooCold down = under("turns 0-late*(beat=28);costs cold;yells 0;", 10, 0, 50, 0, 3, 0);
    down.set(0, 2, 20);
    down.set(1, 2, 23);
    due("it comes to be alike in beat 29", down.stills(1), 1);
    sentence("23 stills: one that is off is never turned anyhow");
    x.set(1, 4, 0);
    due("off", x.stills(1), 0);
    sentence("23 stills: -100000 is no such shower");
    refusedBeyond("x", 0, 1, -100000, v -> x.stills(v));
    each("none there", -100000, v -> new TooHotTooCold().stills(v), 0, 1, 3, 4);
  }

  private static void leave(String call, TooHotTooCold x, int set, int cost) {
    due(call + ", set", x.leave(0, 0), set);
    due(call + ", cost", x.leave(0, 1), cost);
  }

  private static void leave() {
    sentence("24 leave: 0 is the least, 990 the greatest");
    leave("wanted 0", with(0, 0, 0), 0, 0);
    leave("wanted 4", with(0, 0, 4), 0, 480);
    leave("wanted 6", with(0, 0, 6), 10, 480);
    leave("wanted 990", with(0, 0, 990), 990, 0);
    leave("wanted 999", with(0, 0, 999), 990, 30 * 81);
    leave("dearer when warm", under("turns 9;costs set;yells 0;", 0, 0, 0), 0, 0);
    leave("990", under("turns 9;costs (set<990)*9;yells 0;", 0, 0, 0), 990, 0);
    leave("990, not above", under("turns 9;costs (set<991)*9+1;yells 0;", 0, 0, 0), 0, 300);
    leave("none between tens", under("turns 9;costs 9-(set=995 or set=5 or set=11)*9;yells 0;", 0, 0, 0), 0, 270);
    sentence("24 leave: of like ones the least");
    leave("wanted 15", with(0, 0, 15), 10, 750);
    leave("all alike", under(STAYS, 0, 0, 0), 0, 30);
    leave("20 and 70", under("turns 9;costs not(set=70 or set=20);yells 0;", 0, 0, 0), 20, 0);
    sentence("24 leave: off");
    leave("off", off(with(0, 0, 500), 0), 0, 0);
    sentence("24 leave: it is never turned, the others are");
    TooHotTooCold x = under("turns late;costs 9*(cold<0)+3*(0<cold);yells 0;", 10, 4, 100, 0, 4, 0);
    x.set(1, 2, 75);
    leave("the other rises", x, 100, 30 * 3 - 7 * 3);
    sentence("24 leave: -7 is a what below 0 or above 1");
    refusedBeyond("what", 0, 1, -7, v -> x.leave(0, v));
    sentence("24 leave: -5 is no such shower");
    refusedBeyond("x", 0, 1, -5, v -> x.leave(v, 0));
    each("none there", -5, v -> new TooHotTooCold().leave(v, 0), 0, 1, 3, 4);
    sentence("24 leave: -5 is told ahead of -7");
    each("what", -5, v -> x.leave(2, v), -1, 2);
  }

  // ---- 25 to 32

  private interface BySheet {
    long of(TooHotTooCold x, int s, int who);
  }

  /** BAD, -11, BAD: each by itself, and each ahead of what is told behind it; then -5, if one shower is meant. */
  private static void sheetRefusals(String promise, boolean ofOne, BySheet call) {
    TooHotTooCold x = with(0, 0, 50, 0, 0, 60);
    sentence(promise + ": BAD is a sheet below 0 or above 3");
    refusedBeyond("s", 0, 3, -2, v -> call.of(x, v, 0));
    sentence(promise + ": BAD of the sheet is told ahead of -5");
    each("s", -2, v -> call.of(x, v, 9), -1, 4);
    sentence(promise + ": -11 is a sheet that is missing");
    each("s", -11, v -> call.of(x, v, 0), 0, 1, 2, 3);
    x.sheet(2, 0, 31);
    x.sheet(2, -1, 0);
    each("a sheet that was", -11, v -> call.of(x, v, 0), 2);
    sentence(promise + ": -11 is told ahead of -5");
    each("s", -11, v -> call.of(x, v, 9), 0, 3);
    for (int sort = 0; sort < 3; sort++) {
      sentence(promise + ": BAD is a sheet of more than 30, of sort " + sort);
      for (int n : new int[] {31, 32, 40}) {
        x.sheet(1, sort, n);
        each("s of " + n, -2, v -> call.of(x, v, 0), 1);
        sentence(promise + ": BAD of more than 30 is told ahead of -5");
        each("s of " + n, -2, v -> call.of(x, v, 9), 1);
      }
      sentence(promise + ": a sheet of 30, of 29, of 1, of none is taken, of sort " + sort);
      for (int n : new int[] {30, 29, 1, 0}) {
        for (int s = 0; s < 4; s++) {
          x.sheet(s, sort, n);
          long got = call.of(x, s, 0);
          if (got == -2 || got == -11) due("s of " + n, got, 0);
        }
      }
    }
    if (!ofOne) return;
    sentence(promise + ": -5 is no such shower");
    refusedBeyond("x", 0, 1, -5, v -> call.of(x, 0, v));
    TooHotTooCold none = new TooHotTooCold();
    none.sheet(0, 0, 0);
    each("none there", -5, v -> call.of(none, 0, v), 0, 1, 3, 4);
  }

  private static void judge() {
    sheetRefusals("25 judge", true, (x, s, who) -> x.judge(s, who));
    TooHotTooCold x = under("turns 3;costs 0;yells 0;", 0, 0, 50);
    sentence("25 judge: nothing is told: -1");
    row(x, 0, 0);
    due("judge", x.judge(0, 0), -1);
    sentence("25 judge: one beat is told");
    row(x, 0, 2, 0);
    due("as it is", x.judge(0, 0), -1);
    row(x, 0, 2, 1);
    due("otherwise", x.judge(0, 0), 0);
    sentence("25 judge: the first of several");
    row(x, 0, 2, 0, 3, 7, 9, 13);
    due("judge", x.judge(0, 0), 2);
    sentence("25 judge: thirty are told, the last is otherwise, or none");
    int[] all = new int[30];
    for (int t = 0; t < 30; t++) all[t] = 3 * t;
    row(x, 0, 0, all);
    due("judge", x.judge(0, 0), -1);
    x.cell(0, 29, 88);
    due("judge", x.judge(0, 0), 29);
    x.cell(0, 0, 88);
    due("judge", x.judge(0, 0), 0);
    sentence("25 judge: numbers that are never felt");
    for (int no : new int[] {-1, 1000, 65536, MIN, MAX}) {
      row(x, 0, 2, no);
      due("judge of " + no, x.judge(0, 0), 0);
    }
    sentence("25 judge: what one that is off feels");
    x.set(0, 4, 0);
    row(x, 0, 0, 0, 0, 0);
    due("judge", x.judge(0, 0), -1);
  }

  private static void whose() {
    sheetRefusals("26 whose", false, (x, s, who) -> x.whose(s));
    sentence("26 whose: nothing is told: all showers there are, on or not");
    TooHotTooCold x = new TooHotTooCold();
    row(x, 0, 0);
    for (int n = 0; n <= 4; n++) {
      due("of " + n, x.whose(0), (1 << n) - 1);
      x.shower(10 * (n % 3), n, 100);
      x.set(n, 4, n % 2);
    }
    sentence("26 whose: nobody's");
    row(x, 0, 0, 1);
    due("whose", x.whose(0), 0);
    sentence("26 whose: the last one's, the first one's");
    x.set(3, 2, 1);
    due("whose", x.whose(0), 8);
    x.set(0, 2, 1);
    due("whose", x.whose(0), 9);
    sentence("26 whose: thirty are told");
    x.set(3, 3, 0);
    x.film(0, 3, 30);
    due("whose", x.whose(0), 9);
    x.cell(0, 29, 2);
    due("whose", x.whose(0), 0);
  }

  private static void sortRefusals(String promise, BySheet bySort) {
    TooHotTooCold x = with(0, 0, 50);
    x.sheet(0, 1, 30);
    sentence(promise + ": -7 is a sort below 0 or above 1");
    refusedBeyond("sort", 0, 1, -7, v -> bySort.of(x, 0, v));
    sentence(promise + ": BAD, -11, BAD are told ahead of -7");
    each("s", -2, v -> bySort.of(x, v, 2), -1, 4);
    each("a missing s", -11, v -> bySort.of(x, v, 2), 1);
    x.sheet(1, 1, 31);
    each("s of 31", -2, v -> bySort.of(x, v, -1), 1);
    sentence(promise + ": -5 is told ahead of -7");
    TooHotTooCold none = new TooHotTooCold();
    none.sheet(0, 1, 30);
    each("sort", -5, v -> bySort.of(none, 0, v), -1, 2, 9);
  }

  private static void fits() {
    sheetRefusals("27 fits, late", true, (x, s, who) -> x.fits(s, who, 0));
    sheetRefusals("27 fits, haste", true, (x, s, who) -> x.fits(s, who, 1));
    sortRefusals("27 fits", (x, s, sort) -> x.fits(s, 0, sort));
    TooHotTooCold x = under("turns (beat=0)*8;costs 0;yells 0;", 0, 2, 50);
    sentence("27 fits: nothing is told: bits 0 to 4, bits 0 to 16");
    row(x, 0, 0);
    due("late", x.fits(0, 0, 0), 31);
    due("haste", x.fits(0, 0, 1), 131071);
    sentence("27 fits: none");
    row(x, 0, 0, 1);
    due("late", x.fits(0, 0, 0), 0);
    due("haste", x.fits(0, 0, 1), 0);
    sentence("27 fits: late by none, late by 4");
    row(x, 0, 0, 0, 8);
    due("late", x.fits(0, 0, 0), 1);
    row(x, 0, 0, 0, 0, 0, 0, 0, 8);
    due("late", x.fits(0, 0, 0), 16);
    row(x, 0, 0, 0, 0, 0, 0, 0, 0);
    due("later than 4", x.fits(0, 0, 0), 0);
    sentence("27 fits: haste 0, haste 16");
    row(x, 0, 0, 0, 0, 0, 0);
    due("haste", x.fits(0, 0, 1), 1);
    row(x, 0, 0, 0, 0, 0, 16);
    due("haste", x.fits(0, 0, 1), 65536);
    row(x, 0, 0, 0, 0, 0, 17);
    due("haste", x.fits(0, 0, 1), 0);
    sentence("27 fits: all else being as it is");
    row(x, 0, 0, 0, 8);
    due("late, haste 8", x.fits(0, 0, 0), 1);
    x.set(0, 3, 9);
    due("late, haste 9", x.fits(0, 0, 0), 0);
    row(x, 0, 0, 0, 9);
    due("haste, late by 2", x.fits(0, 0, 1), 0);
    x.set(0, 0, 0);
    due("haste, late by none", x.fits(0, 0, 1), 512);
    sentence("27 fits: thirty are told");
    x.film(0, 0, 30);
    due("late", x.fits(0, 0, 0), 1);
    due("haste", x.fits(0, 0, 1), 512);
    x.cell(0, 29, 8);
    due("late", x.fits(0, 0, 0), 0);
    due("haste", x.fits(0, 0, 1), 0);
  }

  private static void kinds() {
    sheetRefusals("28 kinds, kind", true, (x, s, who) -> x.kinds(s, who, 0));
    sheetRefusals("28 kinds, more", true, (x, s, who) -> x.kinds(s, who, 1));
    sortRefusals("28 kinds", (x, s, sort) -> x.kinds(s, 0, sort));
    TooHotTooCold x = with(3, 0, 500, 0, 0, 0);
    x.set(0, 2, 100);
    x.set(1, 2, 101);
    x.set(1, 3, 0);
    sentence("28 kinds: nothing is told: bits 0 to 5, bits 0 to 9");
    row(x, 0, 0);
    due("kind", x.kinds(0, 0, 0), 63);
    due("more", x.kinds(0, 0, 1), 1023);
    sentence("28 kinds: none");
    row(x, 0, 0, 50);
    due("kind", x.kinds(0, 0, 0), 0);
    due("more", x.kinds(0, 0, 1), 0);
    sentence("28 kinds: by felt in beat 0, with the more that it has");
    row(x, 0, 0, 93);
    due("kind", x.kinds(0, 0, 0), 2 + 8);
    row(x, 0, 0, 100);
    due("kind", x.kinds(0, 0, 0), 1 + 4 + 16 + 32);
    sentence("28 kinds: more, with the kind that it has");
    row(x, 0, 0, 100);
    due("more of a plain one", x.kinds(0, 0, 1), 1023);
    row(x, 0, 0, 93);
    due("more of a plain one", x.kinds(0, 0, 1), 0);
    sentence("28 kinds: more 0, more 9, with the kind that it has");
    TooHotTooCold shared = with(13, 0, 500, 0, 0, 0);
    shared.set(0, 2, 100);
    shared.set(1, 2, 101);
    row(shared, 0, 0, 99);
    due("more", shared.kinds(0, 0, 1), 1);
    row(shared, 0, 0, 81);
    due("more", shared.kinds(0, 0, 1), 512);
    row(shared, 0, 0, 79);
    due("more", shared.kinds(0, 0, 1), 0);
    row(shared, 0, 0, 98);
    due("more", shared.kinds(0, 0, 1), 0);
    sentence("28 kinds: kind 0, kind 5 alone");
    x.set(1, 4, 0);
    x.set(0, 1, 107);
    row(x, 0, 0, 100, 107);
    due("kind", x.kinds(0, 0, 0), 1 + 2 + 8);
    row(x, 0, 0, 100, 107, 107, 107, 107);
    due("kind", x.kinds(0, 0, 0), 1 + 2);
    row(x, 0, 0, 100, 107, 107, 107, 53);
    due("kind", x.kinds(0, 0, 0), 8);
    row(x, 0, 0, 100, 100);
    due("kind", x.kinds(0, 0, 0), 16 + 32);
    x.set(0, 1, 109);
    row(x, 0, 0, 100, 100);
    due("kind", x.kinds(0, 0, 0), 32);
    row(x, 0, 0, 100, 108);
    due("kind", x.kinds(0, 0, 0), 4 + 16);
    x.set(0, 1, 113);
    row(x, 0, 0, 100, 113 - 1, 113 - 1);
    due("kind", x.kinds(0, 0, 0), 4 + 16);
    sentence("28 kinds: thirty are told");
    x.film(0, 0, 30);
    due("kind", x.kinds(0, 0, 0), 3);
    x.cell(0, 29, 1);
    due("kind", x.kinds(0, 0, 0), 0);
  }

  private static void laws() {
    sheetRefusals("29 laws", true, (x, s, who) -> x.laws(s, who));
    sentence("29 laws: nothing is told: as many as there are");
    TooHotTooCold x = with(0, 0, 50);
    row(x, 0, 0);
    for (int t = 1; t < 6; t++) {
      due("of " + t, x.laws(0, 0), (1 << t) - 1);
      due("a text", text(x, "turns " + t + ";costs 0;yells 0;"), t);
    }
    due("of six", x.laws(0, 0), 63);
    sentence("29 laws: text 0, text 5, none");
    row(x, 0, 0, 0, 50);
    due("text 0", x.laws(0, 0), 1);
    row(x, 0, 0, 0, 5);
    due("text 5", x.laws(0, 0), 32);
    row(x, 0, 0, 0, 6);
    due("none", x.laws(0, 0), 0);
    sentence("29 laws: whichever is the law");
    x.force(3);
    row(x, 0, 0, 0, 5, 10);
    due("text 5", x.laws(0, 0), 32);
    due("count(3)", x.count(3), 3);
    sentence("29 laws: thirty are told");
    x.film(0, 0, 30);
    due("text 3", x.laws(0, 0), 8);
    x.cell(0, 29, 0);
    due("none", x.laws(0, 0), 0);
  }

  private static void film() {
    TooHotTooCold x = under("turns 3;costs 0;yells 0;", 0, 0, 50, 0, 4, 50);
    for (int n : new int[] {0, 1, 29, 30}) {
      sentence("30 film: of " + n + " beats");
      due("film", x.film(1, 0, n), n);
      due("cell(1, n, 0)", x.cell(1, n, 0), -12);
      if (n > 0) due("cell(1, n - 1, ..)", x.cell(1, n - 1, 3 * n - 3), 1);
      due("judge", x.judge(1, 0), -1);
    }
    sentence("30 film: these are of beats 0, 1, ..");
    x.film(1, 0, 30);
    TooHotTooCold y = under("turns 3;costs 0;yells 0;", 0, 0, 50);
    row(y, 0, 2, 0, 3, 6, 9, 12);
    due("judge", y.judge(0, 0), -1);
    x.film(1, 1, 7);
    due("judge of the other", x.judge(1, 0), 1);
    due("judge", x.judge(1, 1), -1);
    sentence("30 film: a missing sheet becomes, one of bytes, one of 40");
    for (int sort = -1; sort < 3; sort++) {
      x.sheet(2, sort, 40);
      due("film", x.film(2, 1, 2), 2);
      due("ints", x.showersBy(2, 2, 0, 0), 0);
      due("two of them", x.cell(2, 2, 0), -12);
    }
    sentence("30 film: ints hold all that is felt");
    x.set(0, 2, 999);
    x.film(2, 0, 1);
    due("judge", x.judge(2, 0), -1);
    sentence("30 film: it stays, when the shower is turned");
    x.set(0, 2, 998);
    due("judge", x.judge(2, 0), 0);
    sentence("30 film: BAD is a sheet below 0 or above 3");
    refusedBeyond("s", 0, 3, -2, v -> x.film(v, 0, 3));
    sentence("30 film: -5 is no such shower");
    refusedBeyond("x", 0, 1, -5, v -> x.film(3, v, 3));
    each("none there", -5, v -> new TooHotTooCold().film(0, v, 0), 0, 1, 3, 4);
    sentence("30 film: -7 is an n below 0 or above 30");
    refusedBeyond("n", 0, 30, -7, v -> x.film(3, 0, v));
    sentence("30 film: of several BAD is told first, then -5");
    each("s", -2, v -> x.film(v, 2, 3), -1, 4);
    each("s", -2, v -> x.film(v, 0, 31), -1, 4);
    each("n", -5, v -> x.film(3, 2, v), -1, 31);
    sentence("30 film: a refused one leaves the sheet missing");
    due("cell", x.cell(3, 0, 0), -11);
  }

  private static void criers() {
    sheetRefusals("31 criers", false, (x, s, who) -> x.criers(s));
    TooHotTooCold x = new TooHotTooCold();
    sentence("31 criers: nothing is told: all showers there are");
    row(x, 0, 0);
    for (int n = 0; n <= 4; n++) {
      due("of " + n, x.criers(0), (1 << n) - 1);
      x.shower(0, n, 0);
    }
    text(x, "turns 0;costs 0;yells beat=0 or beat=29 or beat=late*3;");
    x.force(1);
    sentence("31 criers: beat 0 and beat 29");
    row(x, 0, 0, 0);
    due("0", x.criers(0), 15);
    row(x, 0, 0, 29);
    due("29", x.criers(0), 15);
    sentence("31 criers: in all of these");
    row(x, 0, 0, 0, 3, 29);
    due("0, 3, 29", x.criers(0), 2);
    row(x, 0, 0, 9, 0, 9);
    due("9, 0, 9", x.criers(0), 8);
    row(x, 0, 0, 3, 6);
    due("3, 6", x.criers(0), 0);
    sentence("31 criers: thirty are told");
    int[] all = new int[30];
    for (int i = 0; i < 30; i++) all[i] = 29;
    row(x, 0, 0, all);
    due("all 29", x.criers(0), 15);
    x.cell(0, 29, 6);
    due("the last 6", x.criers(0), 4);
    sentence("31 criers: a number that is no beat: nobody does");
    for (int no : new int[] {-1, 30, 31, 32, 61, 256, 65536 + 29, MIN, MAX, -32, -3}) {
      row(x, 0, 2, no);
      due("of " + no, x.criers(0), 0);
      row(x, 0, 2, 0, no);
      due("of 0 and " + no, x.criers(0), 0);
      row(x, 0, 2, no, 0);
      due("of " + no + " and 0", x.criers(0), 0);
    }
    sentence("31 criers: nobody is there, no beat is told");
    TooHotTooCold none = new TooHotTooCold();
    row(none, 0, 2, 30);
    due("criers", none.criers(0), 0);
    sentence("31 criers: one that is off doesn't cry");
    row(x, 0, 0, 0);
    x.set(0, 4, 0);
    due("criers", x.criers(0), 14);
  }

  private static void heard() {
    sheetRefusals("32 heard", true, (x, s, who) -> x.heard(s, who));
    TooHotTooCold x = under("turns 0;costs 0;yells beat=late*7 or beat=29 and late=1;", 0, 3, 0);
    sentence("32 heard: late by none, by 4");
    row(x, 0, 0, 0);
    due("0", x.heard(0, 0), 1);
    row(x, 0, 0, 28);
    due("28", x.heard(0, 0), 16);
    sentence("32 heard: in just the beats, neither fewer nor more");
    row(x, 0, 0, 7);
    due("7", x.heard(0, 0), 0);
    row(x, 0, 0, 29);
    due("29", x.heard(0, 0), 0);
    row(x, 0, 0, 29, 7);
    due("29, 7", x.heard(0, 0), 2);
    row(x, 0, 0, 29, 7, 0);
    due("29, 7, 0", x.heard(0, 0), 0);
    sentence("32 heard: a beat told twice is a beat");
    row(x, 0, 0, 7, 29, 7, 29, 29);
    due("7, 29", x.heard(0, 0), 2);
    sentence("32 heard: numbers that are no beats do not matter");
    for (int no : new int[] {-1, 30, 31, 32, 46, 256, 65536, MIN, MAX, -32, -18}) {
      row(x, 0, 2, no, 14, no);
      due("14 and " + no, x.heard(0, 0), 4);
      row(x, 0, 2, no);
      due("only " + no, x.heard(0, 0), 0);
    }
    sentence("32 heard: nothing is told: it would never cry");
    row(x, 0, 0);
    due("it cries", x.heard(0, 0), 0);
    x.force(0);
    due("it never does", x.heard(0, 0), 31);
    row(x, 0, 2, 30, -1);
    due("it never does, none is a beat", x.heard(0, 0), 31);
    sentence("32 heard: thirty are told");
    TooHotTooCold always = under("turns 0;costs 0;yells beat<29 or late=2;", 0, 0, 0);
    int[] all = new int[30];
    for (int i = 0; i < 30; i++) all[i] = 29 - i;
    row(always, 0, 0, all);
    due("all", always.heard(0, 0), 4);
    always.cell(0, 0, 30);
    due("all but 29", always.heard(0, 0), 27);
  }

  // ---- 33 to 36

  private static int lot(long seed, int who) {
    long lot = seed + 1;
    for (int i = 0; i <= who; i++) lot = lot * 48271 % 2147483647;
    return (int) (lot % 1000);
  }

  private static void drawn() {
    sentence("33 drawn: seed 0 and seed 99999, the first and the last shower");
    for (int seed : new int[] {0, 1, 44488, 99998, 99999}) {
      TooHotTooCold x = under("turns 0;costs cold*cold;yells not cold=0;", 0, 0, lot(seed, 0), 0, 0, lot(seed, 1), 0, 0, lot(seed, 2), 0, 0, lot(seed, 3));
      due("cost of seed " + seed, x.drawn(seed, 0), 0);
      due("who cries, seed " + seed, x.drawn(seed, 1), 0);
      for (int who = 0; who < 4; who++) {
        int wanted = x.told(who, 1);
        x.set(who, 1, wanted == 999 ? 998 : wanted + 1);
        due("cost, one farther apart, seed " + seed, x.drawn(seed, 0), 30);
        due("who cries, seed " + seed, x.drawn(seed, 1), 1 << who);
        x.set(who, 1, wanted);
      }
    }
    sentence("33 drawn: one that is off has its lot, but neither costs nor cries");
    TooHotTooCold two = under("turns 0;costs cold*cold;yells not cold=0;", 0, 0, 0, 0, 0, lot(7, 1));
    two.set(0, 4, 0);
    due("cost", two.drawn(7, 0), 0);
    due("who cries", two.drawn(7, 1), 0);
    two.set(1, 1, lot(7, 0));
    due("the first's lot isn't the second's", two.drawn(7, 1), 2);
    sentence("33 drawn: the set that it has does not matter");
    two.set(1, 1, lot(7, 1));
    two.set(1, 2, 999);
    due("cost", two.drawn(7, 0), 0);
    due("told(1, 2)", two.told(1, 2), 999);
    sentence("33 drawn: nobody is there");
    due("cost", new TooHotTooCold().drawn(99999, 0), 0);
    due("who cries", new TooHotTooCold().drawn(0, 1), 0);
    sentence("33 drawn: BAD is a seed below 0 or above 99999");
    refusedBeyond("seed", 0, 99999, -2, v -> two.drawn(v, 0));
    refusedBeyond("seed", 0, 99999, -2, v -> new TooHotTooCold().drawn(v, 1));
    takenFrom("seed", 0, 99999, -2, v -> two.drawn(v, 0));
    sentence("33 drawn: BAD is a what below 0 or above 1");
    refusedBeyond("what", 0, 1, -2, v -> two.drawn(0, v));
  }

  private static void odds(String call, TooHotTooCold x, int seed, int seeds, int near, int above, int below) {
    due(call + ", above", x.odds(seed, seeds, near, 0), above);
    due(call + ", below", x.odds(seed, seeds, near, 1), below);
  }

  private static void odds() {
    // never turned: the lots of seeds 0, 1, 2, .. are 271, 542, 813, 84, 355, 626, 897, ..
    TooHotTooCold x = with(50, 0, 271);
    sentence("34 odds: one seed, none or all");
    odds("seed 0", x, 0, 1, 0, 1, 1);
    odds("seed 1", x, 1, 1, 0, 0, 1);
    sentence("34 odds: none of several is 0 of 1");
    odds("seeds 1 to 30", x, 1, 29, 0, 0, 1);
    sentence("34 odds: all of several are 1 of 1");
    odds("30 seeds", x, 0, 30, 999, 1, 1);
    sentence("34 odds: lowest terms");
    odds("2 of 4", x, 0, 4, 187, 1, 2);
    odds("1 of 4", x, 0, 4, 186, 1, 4);
    odds("3 of 4", x, 0, 4, 271, 3, 4);
    odds("4 of 6", x, 0, 6, 271, 2, 3);
    odds("3 of 6", x, 0, 6, 270, 1, 2);
    odds("2 of 6", x, 0, 6, 85, 1, 3);
    sentence("34 odds: thirty seeds, from 99999 on: they pass it");
    for (int last : new int[] {0, 1, 29}) {
      odds("seed " + (99999 + last), with(50, 0, lot(99999 + last, 0)), 99999, last + 1, 0, 1, last + 1);
    }
    sentence("34 odds: all that are on, not one that is off");
    TooHotTooCold two = with(50, 0, lot(0, 0), 50, 0, lot(1, 1));
    odds("each in another seed", two, 0, 2, 0, 0, 1);
    odds("the first alone", off(two, 1), 0, 2, 0, 1, 2);
    two.set(1, 4, 1);
    odds("the second alone", off(two, 0), 1, 1, 0, 1, 1);
    odds("the second alone", two, 0, 2, 0, 1, 2);
    sentence("34 odds: none is on, none is there: all rest");
    odds("none is on", off(two, 1), 0, 30, 0, 1, 1);
    odds("none is there", new TooHotTooCold(), 99999, 30, 0, 1, 1);
    sentence("34 odds: NO is a seed below 0 or above 99999");
    refusedBeyond("seed", 0, 99999, TooHotTooCold.NO, v -> x.odds(v, 1, 0, 0));
    takenFrom("seed", 0, 99999, TooHotTooCold.NO, v -> x.odds(v, 30, 0, 0));
    sentence("34 odds: NO are seeds below 1 or above 30");
    refusedBeyond("seeds", 1, 30, TooHotTooCold.NO, v -> x.odds(0, v, 0, 0));
    refusedBeyond("seeds", 1, 30, TooHotTooCold.NO, v -> x.odds(99999, v, 0, 0));
    takenFrom("seeds", 1, 30, TooHotTooCold.NO, v -> x.odds(0, v, 0, 0));
    sentence("34 odds: NO is a near below 0 or above 999");
    refusedBeyond("near", 0, 999, TooHotTooCold.NO, v -> x.odds(0, 1, v, 0));
    takenFrom("near", 0, 999, TooHotTooCold.NO, v -> x.odds(0, 1, v, 0));
    sentence("34 odds: NO is a part below 0 or above 1");
    refusedBeyond("part", 0, 1, TooHotTooCold.NO, v -> x.odds(0, 1, 0, v));
    sentence("34 odds: NO, though nobody is there");
    each("seeds", TooHotTooCold.NO, v -> new TooHotTooCold().odds(0, v, 0, 0), 0, 31, -1);
    each("part", TooHotTooCold.NO, v -> new TooHotTooCold().odds(0, 1, 0, v), -1, 2);
  }

  private static void image() {
    sentence("35 image: of no shower, of four");
    TooHotTooCold x = new TooHotTooCold();
    for (int n = 0; n <= 4; n++) {
      due("image()", x.image(), n);
      due("count(0)", x.count(0), n);
      x.shower(0, 0, n);
    }
    sentence("35 image: the last one kept is the image");
    x.set(3, 1, 77);
    due("image()", x.image(), 4);
    x.set(3, 1, 78);
    due("back()", x.back(), 4);
    due("told(3, 1)", x.told(3, 1), 77);
    sentence("35 image: what is on or off doesn't matter to how many there are");
    for (int who = 0; who < 4; who++) x.set(who, 4, 0);
    due("image()", x.image(), 4);
    sentence("35 image: of one that went back");
    TooHotTooCold y = with(0, 0, 1);
    y.image();
    y.shower(0, 0, 2);
    y.back();
    due("image()", y.image(), 1);
  }

  private static void back() {
    sentence("36 back: STATE: there is none");
    TooHotTooCold x = with(0, 0, 1);
    due("back()", x.back(), -3);
    due("back() again", x.back(), -3);
    due("count(0)", x.count(0), 1);
    sentence("36 back: to no shower at all, the image kept when there was none");
    TooHotTooCold none = new TooHotTooCold();
    due("image()", none.image(), 0);
    due("back() at once", none.back(), 0);
    for (int n = 0; n < 4; n++) none.shower(33, 1, 1);
    due("back()", none.back(), 0);
    due("count(0)", none.count(0), 0);
    due("count(1)", none.count(1), 0);
    each("told", -5, v -> none.told(v, 0), 0, 1, 2, 3);
    each("taken", -11, v -> none.taken(v, 0), 0, 1, 2, 3, 4, 5, 6, 7);
    due("house(0)", none.house(0), 0);
    sentence("36 back: showers have room again, and are new");
    for (int n = 0; n < 4; n++) due("shower", none.shower(n, 0, 9), n);
    due("FULL", none.shower(0, 0, 9), -4);
    for (int n = 0; n < 4; n++) {
      int[] want = {0, 9, 0, 8, 1, 0, n, 50};
      for (int what = 0; what < 8; what++) due("told(" + n + ", " + what + ")", none.told(n, what), want[what]);
    }
    backToAll();
  }

  private static void backToAll() {
    int[] kept = {3, 500, 77, 13, 0}, then = {0, 0, 999, 0, 1};
    String[] names = {"late", "wanted", "set", "haste", "on"};
    for (int w = 0; w < 5; w++) {
      sentence("36 back: " + names[w] + " of each is as in the image");
      TooHotTooCold x = with(0, 0, 0, 15, 1, 1, 25, 2, 2, 35, 3, 3);
      for (int who = 0; who < 4; who++) x.set(who, w, kept[w]);
      x.image();
      for (int who = 0; who < 4; who++) x.set(who, w, then[w]);
      due("back()", x.back(), 4);
      for (int who = 0; who < 4; who++) due("told(" + who + ", " + w + ")", x.told(who, w), kept[w]);
    }
    sentence("36 back: the law is as in the image, texts stay");
    TooHotTooCold x = with(0, 0, 0);
    text(x, "turns 5;costs 0;yells 0;");
    x.force(1);
    x.image();
    text(x, "turns 6;costs 0;yells 0;");
    x.force(2);
    due("back()", x.back(), 1);
    due("count(3)", x.count(3), 1);
    due("count(2)", x.count(2), 3);
    due("turns", x.asks(0, 0, 0, 0, 0), 5);
    due("force(2)", x.force(2), 1);
    sentence("36 back: as often as one likes");
    due("back()", x.back(), 1);
    due("count(3)", x.count(3), 1);
    x.set(0, 2, 9);
    due("back()", x.back(), 1);
    due("told(0, 2)", x.told(0, 2), 0);
    sentence("36 back: set as behind the beats that passed is as ahead of them");
    x.pass(30);
    due("told(0, 2)", x.told(0, 2), 150);
    due("back()", x.back(), 1);
    due("told(0, 2)", x.told(0, 2), 0);
    sentence("36 back: one that came since and went leaves nothing to the next in its place");
    x.shower(39, 4, 999);
    x.set(1, 2, 500);
    x.set(1, 3, 16);
    x.set(1, 4, 0);
    due("back()", x.back(), 1);
    due("shower", x.shower(0, 0, 0), 1);
    int[] want = {0, 0, 0, 8, 1, 0, 0, 50};
    for (int what = 0; what < 8; what++) due("told(1, " + what + ")", x.told(1, what), want[what]);
    goneOnesAreStill();
    sentence("36 back: sheets and the tape stay");
    row(x, 1, 2, 5, 6, 7);
    tape(x, "ab");
    due("back()", x.back(), 1);
    due("cell(1, 2, 7)", x.cell(1, 2, 7), 1);
    due("count(4)", x.count(4), 2);
  }

  private static void goneOnesAreStill() {
    sentence("36 back: those that are none neither cry nor cost, nor hurt");
    TooHotTooCold x = under("turns 0;costs cold;yells late<1 or beat=5;", 10, 1, 50);
    x.set(0, 2, 40);
    x.image();
    int cost = x.house(0);
    for (int n = 0; n < 3; n++) x.set(x.shower(0, 0, 999), 2, 50);
    due("the beat, with them", x.house(2), 5);
    for (int n = 1; n < 4; n++) x.set(n, 0, 0);
    due("it costs more by them", x.day(0, 0), cost + 90);
    x.shower(0, 0, 0);
    due("back()", x.back(), 1);
    due("cost", x.house(0), cost);
    due("the beat", x.house(2), 5);
    due("who cries", x.house(1), 1);
    due("off", x.off(0), 0);
    due("card", x.card(1), cost);
    due("odds", x.odds(0, 3, 999, 0), 1);
  }

  // ---- 37 to 41

  private static void sheet() {
    TooHotTooCold x = with(0, 0, 50);
    x.set(0, 3, 0);
    for (int sort = 0; sort < 3; sort++) {
      for (int n : new int[] {0, 1, 39, 40}) {
        sentence("37 sheet: " + n + " of sort " + sort);
        for (int s = 0; s < 4; s++) {
          due("sheet", x.sheet(s, sort, n), 1);
          due("its sort", x.showersBy(s, sort, 0, 0), 0);
          if (n > 0) due("the last", x.cell(s, n - 1, 1), 1);
          due("behind the last", x.cell(s, n, 1), -12);
        }
      }
      sentence("37 sheet: all 0, also what stood there");
      int[] ones = new int[40];
      for (int i = 0; i < 40; i++) ones[i] = 1;
      row(x, 1, sort, ones);
      x.sheet(1, sort, 40);
      for (int i = 0; i < 40; i++) holds(x, 1, sort, i, 0);
      row(x, 1, sort, ones);
      x.sheet(1, sort, 2);
      x.sheet(1, sort, 40);
      for (int i = 0; i < 40; i += 13) holds(x, 1, sort, i, 0);
      row(x, 1, sort, ones);
      x.sheet(1, -1, 0);
      x.sheet(1, sort, 40);
      for (int i = 0; i < 40; i += 13) holds(x, 1, sort, i, 0);
      x = with(0, 0, 50);
      x.set(0, 3, 0);
    }
    sentence("37 sheet: missing, by sort -1, n does not matter");
    for (int n : new int[] {0, 40, 41, -1, MIN, MAX}) {
      x.sheet(2, 1, 3);
      due("sheet", x.sheet(2, -1, n), 1);
      due("cell", x.cell(2, 0, 0), -11);
      due("one that is missing", x.sheet(2, -1, n), 1);
    }
    sheetRefused(with(0, 0, 50));
  }

  private static void sheetRefused(TooHotTooCold x) {
    sentence("37 sheet: BAD is a sheet below 0 or above 3");
    refusedBeyond("s", 0, 3, -2, v -> x.sheet(v, 0, 3));
    refusedBeyond("s, missing", 0, 3, -2, v -> x.sheet(v, -1, 3));
    sentence("37 sheet: BAD is a sort below -1 or above 2");
    refusedBeyond("sort", -1, 2, -2, v -> x.sheet(1, v, 3));
    sentence("37 sheet: BAD is an n above 40");
    each("n", -2, v -> x.sheet(1, 2, v), 41, 42, 256, 296, 65536, MAX, MAX - 1);
    sentence("37 sheet: -14 is an n below 0");
    each("n", -14, v -> x.sheet(1, 2, v), -1, -2, -256, -65536, MIN, MIN + 1);
    sentence("37 sheet: BAD is told ahead of -14");
    each("s", -2, v -> x.sheet(v, 0, -1), -1, 4);
    each("sort", -2, v -> x.sheet(1, v, -1), -2, 3);
    sentence("37 sheet: a refused one stays missing");
    each("s", -11, v -> x.cell(v, 0, 0), 0, 1, 2, 3);
    sentence("37 sheet: a refused one stays as it is");
    row(x, 1, 2, 7, 8);
    each("n", -2, v -> x.sheet(1, 0, v), 41, MAX);
    each("n", -14, v -> x.sheet(1, 0, v), -1, MIN);
    each("sort", -2, v -> x.sheet(1, v, 1), -2, 3);
    holds(x, 1, 2, 0, 7);
    holds(x, 1, 2, 1, 8);
    due("behind the last", x.cell(1, 2, 0), -12);
  }

  private static void cell() {
    TooHotTooCold x = with(0, 0, 50);
    x.set(0, 3, 0);
    for (int s = 0; s < 4; s++) {
      x.sheet(s, 2, 3);
      int sheet = s;
      sentence("38 cell: from the first to the last of three");
      for (int i = 0; i < 3; i++) due("cell", x.cell(s, i, 100 + i), 1);
      sentence("38 cell: -12 is a place below 0 or behind the last");
      refusedBeyond("i", 0, 2, -12, v -> x.cell(sheet, v, 9));
    }
    sentence("38 cell: that number becomes so, the others stay");
    for (int i = 0; i < 3; i++) holds(x, 0, 2, i, 100 + i);
    x.cell(0, 1, 999);
    holds(x, 0, 2, 0, 100);
    holds(x, 0, 2, 1, 999);
    holds(x, 0, 2, 2, 102);
    sentence("38 cell: -12, of a sheet of none, of one, of forty");
    x.sheet(1, 0, 0);
    each("of none", -12, v -> x.cell(1, v, 9), 0, -1, 1, 39, 40, MIN, MAX);
    x.sheet(1, 0, 1);
    each("of one", -12, v -> x.cell(1, v, 9), -1, 1, 39, 40, MIN, MAX);
    x.sheet(1, 0, 40);
    each("of forty", 1, v -> x.cell(1, v, 9), 0, 39);
    each("of forty", -12, v -> x.cell(1, v, 9), -1, 40, 41, MIN, MAX);
    sentence("38 cell: of bytes the lowest 8 bits");
    for (int v : new int[] {0, 1, 127}) {
      for (int more : new int[] {0, 256, -256, 65536, MIN, 1 << 30}) {
        x.cell(1, 39, v + more);
        holds(x, 1, 0, 39, v);
      }
    }
    sentence("38 cell: of bytes 128 and more is below 0");
    for (int v : new int[] {128, 200, 255}) {
      TooHotTooCold y = with(0, 0, 0);
      y.set(0, 2, v);
      row(y, 0, 0, v);
      due("judge of " + v, y.judge(0, 0), 0);
    }
    sentence("38 cell: of shorts the lowest 16 bits");
    x.sheet(1, 1, 40);
    for (int v : new int[] {0, 1, 127, 128, 255, 256, 999}) {
      for (int more : new int[] {0, 65536, -65536, MIN, 1 << 30}) {
        x.cell(1, 39, v + more);
        holds(x, 1, 1, 39, v);
      }
    }
    sentence("38 cell: an int is all of it");
    x.sheet(1, 2, 30);
    for (int more : new int[] {256, 65536, -65536, MIN, 1 << 30}) {
      x.cell(1, 0, more);
      x.set(0, 2, 0);
      due("judge of " + more, x.judge(1, 0), 0);
      due("whose of " + more, x.whose(1), 0);
    }
    cellRefused();
  }

  private static void cellRefused() {
    TooHotTooCold x = new TooHotTooCold();
    sentence("38 cell: BAD is a sheet below 0 or above 3");
    refusedBeyond("s", 0, 3, -2, v -> x.cell(v, 0, 1));
    sentence("38 cell: BAD is told ahead of -11 and -12");
    each("s", -2, v -> x.cell(v, -1, 1), -1, 4, MIN, MAX);
    sentence("38 cell: -11 is a sheet that is missing, ahead of -12");
    for (int s = 0; s < 4; s++) {
      int sheet = s;
      each("i", -11, v -> x.cell(sheet, v, 1), 0, -1, 39, 40, MIN, MAX);
    }
    sentence("38 cell: -11 is a sheet that came to be missing");
    x.sheet(0, 2, 3);
    x.sheet(0, -1, 3);
    each("i", -11, v -> x.cell(0, v, 1), 0, 2, 3, -1);
  }

  private static TooHotTooCold twoSheets(int sort, int of, int to) {
    TooHotTooCold x = with(0, 0, 50);
    x.set(0, 3, 0);
    x.sheet(0, sort, of);
    x.sheet(1, sort, to);
    for (int i = 0; i < of; i++) x.cell(0, i, 10 + i);
    for (int i = 0; i < to; i++) x.cell(1, i, 60 + i);
    return x;
  }

  private static void holdAll(TooHotTooCold x, int s, int sort, int... numbers) {
    for (int i = 0; i < numbers.length; i++) holds(x, s, sort, i, numbers[i]);
  }

  private static void copy() {
    for (int sort = 0; sort < 3; sort++) {
      sentence("39 copy: one, the first and the last, of sort " + sort);
      TooHotTooCold x = twoSheets(sort, 3, 5);
      due("copy", x.copy(0, 0, 1, 4, 1), 1);
      due("copy", x.copy(0, 2, 1, 0, 1), 1);
      holdAll(x, 1, sort, 12, 61, 62, 63, 10);
      holdAll(x, 0, sort, 10, 11, 12);
      sentence("39 copy: all of it, just to the end, of sort " + sort);
      x = twoSheets(sort, 3, 5);
      due("copy", x.copy(0, 0, 1, 2, 3), 3);
      holdAll(x, 1, sort, 60, 61, 10, 11, 12);
      sentence("39 copy: forty, of sort " + sort);
      x = twoSheets(sort, 40, 40);
      due("copy", x.copy(0, 0, 1, 0, 40), 40);
      for (int i = 0; i < 40; i += 3) holds(x, 1, sort, i, 10 + i);
    }
    sentence("39 copy: to its own, as they were, behind and ahead");
    TooHotTooCold x = twoSheets(2, 6, 0);
    due("behind", x.copy(0, 0, 0, 1, 5), 5);
    holdAll(x, 0, 2, 10, 10, 11, 12, 13, 14);
    x = twoSheets(2, 6, 0);
    due("ahead", x.copy(0, 1, 0, 0, 5), 5);
    holdAll(x, 0, 2, 11, 12, 13, 14, 15, 15);
    x = twoSheets(2, 6, 0);
    due("to where they are", x.copy(0, 0, 0, 0, 6), 6);
    holdAll(x, 0, 2, 10, 11, 12, 13, 14, 15);
    sentence("39 copy: none comes, of any place, also behind the last");
    x = twoSheets(1, 3, 5);
    due("none", x.copy(0, 0, 1, 0, 0), 0);
    due("none, from the end", x.copy(0, 3, 1, 0, 0), 0);
    due("none, to the end", x.copy(0, 0, 1, 5, 0), 0);
    holdAll(x, 1, 1, 60, 61, 62, 63, 64);
    x = twoSheets(1, 0, 0);
    due("none, of a sheet of none", x.copy(0, 0, 1, 0, 0), 0);
    sentence("39 copy: ints keep all their bits");
    x = twoSheets(2, 2, 2);
    x.cell(0, 0, 65536 + 60);
    x.copy(0, 0, 1, 0, 1);
    x.set(0, 2, 60);
    due("judge", x.judge(1, 0), 0);
  }

  private static void copyRefused() {
    TooHotTooCold x = new TooHotTooCold();
    sentence("39 copy: BAD is a sheet below 0 or above 3, either one");
    refusedBeyond("s", 0, 3, -2, v -> x.copy(v, 0, 1, 0, 1));
    refusedBeyond("other", 0, 3, -2, v -> x.copy(0, 0, v, 0, 1));
    sentence("39 copy: BAD is told ahead of -11, -12");
    each("s", -2, v -> x.copy(v, -1, 1, -1, -1), -1, 4);
    each("other", -2, v -> x.copy(0, -1, v, -1, -1), -1, 4);
    sentence("39 copy: -11 is a sheet that is missing, either one, both");
    x.sheet(1, 0, 5);
    due("both", x.copy(0, 0, 2, 0, 1), -11);
    due("the one", x.copy(0, 0, 1, 0, 1), -11);
    due("the other", x.copy(1, 0, 0, 0, 1), -11);
    due("its own", x.copy(0, 0, 0, 0, 0), -11);
    sentence("39 copy: -11 is told ahead of -13, -12");
    x.sheet(0, 1, 5);
    x.sheet(0, -1, 5);
    due("one that was of another sort", x.copy(0, 0, 1, 0, 1), -11);
    due("to one that was of another sort", x.copy(1, 0, 0, 0, 1), -11);
    each("n", -11, v -> x.copy(0, -1, 1, -1, v), -1, 0, 1, 41);
    sentence("39 copy: -13 are unlike sorts");
    for (int s = 0; s < 3; s++) x.sheet(s, s, 5);
    for (int s = 0; s < 3; s++) {
      for (int other = 0; other < 3; other++) due("sorts " + s + ", " + other, x.copy(s, 0, other, 0, 5), s == other ? 5 : -13);
    }
    sentence("39 copy: -13 is told ahead of -12");
    each("n", -13, v -> x.copy(0, -1, 1, 9, v), -1, 0, 1, 6, MIN, MAX);
    copyOutside();
  }

  private static void copyOutside() {
    TooHotTooCold x = twoSheets(1, 3, 5);
    sentence("39 copy: -12 is an n below 0");
    each("n", -12, v -> x.copy(0, 0, 1, 0, v), -1, -2, -256, -65535, MIN, MIN + 1);
    each("n, from behind", -12, v -> x.copy(0, 3, 1, 5, v), -1, -3, MIN);
    sentence("39 copy: -12 is an n that neither has, or one of them");
    each("n", -12, v -> x.copy(0, 0, 1, 0, v), 4, 5, 6, 40, 41, 256, 65536, MAX, MAX - 1);
    each("n", -12, v -> x.copy(1, 0, 0, 0, v), 4, 5, 6, 40, MAX);
    sentence("39 copy: -12 is a place to take from outside");
    for (int n = 1; n <= 3; n++) {
      int many = n;
      each("i for " + n, -12, v -> x.copy(0, v, 1, 0, many), 4 - n, -1, 3, 4, 40, MIN, MIN + 1, MAX, MAX - 1, MAX - 2);
      due("the last i for " + n, x.copy(0, 3 - n, 1, 0, n), n);
    }
    each("i for none", -12, v -> x.copy(0, v, 1, 0, 0), 4, -1, 40, MIN, MAX);
    sentence("39 copy: -12 is a place to come to outside");
    for (int n = 1; n <= 3; n++) {
      int many = n;
      each("j for " + n, -12, v -> x.copy(0, 0, 1, v, many), 6 - n, -1, 5, 6, 40, MIN, MIN + 1, MAX, MAX - 1, MAX - 2);
      due("the last j for " + n, x.copy(0, 0, 1, 5 - n, n), n);
    }
    each("j for none", -12, v -> x.copy(0, 0, 1, v, 0), 6, -1, 40, MIN, MAX);
    sentence("39 copy: -12, where place and n together wrap around");
    due("from", x.copy(0, MAX, 1, 0, 1), -12);
    due("from", x.copy(0, MAX - 1, 1, 0, 3), -12);
    due("from", x.copy(0, 2, 1, 0, MAX), -12);
    due("to", x.copy(0, 0, 1, MAX, 1), -12);
    due("to", x.copy(0, 0, 1, MAX - 2, 3), -12);
    due("both", x.copy(0, MAX, 1, MAX, MAX), -12);
    due("from below", x.copy(0, MIN, 1, 0, MIN), -12);
    sentence("39 copy: a refused one changes nothing");
    TooHotTooCold y = twoSheets(1, 3, 5);
    y.copy(0, 0, 1, 3, 3);
    y.copy(0, 1, 1, 0, 3);
    holdAll(y, 1, 1, 60, 61, 62, 63, 64);
  }

  private static void showersBy() {
    for (int n = 0; n <= 4; n++) {
      sentence("40 showersBy: " + n + " of them come");
      TooHotTooCold x = new TooHotTooCold();
      row(x, 0, 0, 59, 4, 99, 0, 0, 0, 10, 1, 1, 49, 3, 127);
      due("showersBy", x.showersBy(0, 0, 0, n), n);
      due("count(0)", x.count(0), n);
      if (n > 0) due("told(0, 1)", x.told(0, 1), 99);
      if (n > 3) due("told(3, 1)", x.told(3, 1), 127);
    }
    for (int sort = 0; sort < 3; sort++) {
      sentence("40 showersBy: as of shower(), of sort " + sort);
      TooHotTooCold x = new TooHotTooCold();
      row(x, 3, sort, -1, 59, 4, 100, -1);
      due("showersBy", x.showersBy(3, sort, 1, 1), 1);
      int[] want = {4, 100, 0, 8, 1, 5, 9, 14};
      for (int what = 0; what < 8; what++) due("told(0, " + what + ")", x.told(0, what), want[what]);
    }
    sentence("40 showersBy: others are left out: each number next to what is taken");
    int[][] bad = {{-1, 0, 0}, {60, 0, 0}, {0, -1, 0}, {0, 5, 0}, {0, 0, -1}, {0, 0, 1000}, {MIN, 0, 0}, {0, MAX, 0}, {0, 0, MIN}};
    for (int[] b : bad) {
      TooHotTooCold x = new TooHotTooCold();
      row(x, 0, 2, b[0], b[1], b[2], 59, 4, 999);
      due("left out", x.showersBy(0, 2, 0, 1), 0);
      due("the next comes", x.showersBy(0, 2, 0, 2), 1);
      due("told(0, 1)", x.told(0, 1), 999);
    }
    sentence("40 showersBy: those that have no room are left out");
    TooHotTooCold x = with(0, 0, 1, 0, 0, 2, 0, 0, 3);
    row(x, 0, 2, 0, 0, 4, 0, 0, 5, 0, 0, 6);
    due("one has room", x.showersBy(0, 2, 0, 3), 1);
    due("told(3, 1)", x.told(3, 1), 4);
    due("none has room", x.showersBy(0, 2, 0, 3), 0);
    sentence("40 showersBy: none of them: 0, wherever the place is");
    each("none at", 0, v -> x.showersBy(0, 2, v, 0), 0, 6, 7, 9, 10, -1, MIN, MAX);
    TooHotTooCold empty = new TooHotTooCold();
    row(empty, 0, 2);
    due("none, of a sheet of none", empty.showersBy(0, 2, 0, 0), 0);
  }

  private static void showersByRefused() {
    TooHotTooCold x = new TooHotTooCold();
    sentence("40 showersBy: BAD is a sheet below 0 or above 3");
    refusedBeyond("s", 0, 3, -2, v -> x.showersBy(v, 0, 0, 1));
    sentence("40 showersBy: BAD is a sort below 0 or above 2");
    refusedBeyond("sort", 0, 2, -2, v -> x.showersBy(0, v, 0, 1));
    sentence("40 showersBy: BAD is an n below 0 or above 4");
    refusedBeyond("n", 0, 4, -2, v -> x.showersBy(0, 0, 0, v));
    sentence("40 showersBy: BAD is told ahead of -11, -13, -12");
    x.sheet(1, 1, 3);
    each("s", -2, v -> x.showersBy(v, 0, -1, 1), -1, 4);
    each("sort", -2, v -> x.showersBy(1, v, -1, 1), -1, 3);
    each("n", -2, v -> x.showersBy(1, 0, -1, v), -1, 5);
    each("n, missing", -2, v -> x.showersBy(0, 0, -1, v), -1, 5);
    sentence("40 showersBy: -11 is a sheet that is missing");
    each("sort", -11, v -> x.showersBy(0, v, 0, 1), 0, 1, 2);
    each("n", -11, v -> x.showersBy(0, 1, 0, v), 0, 1, 4);
    sentence("40 showersBy: -11 is told ahead of -13, -12");
    x.sheet(2, 2, 3);
    x.sheet(2, -1, 3);
    each("sort", -11, v -> x.showersBy(2, v, -1, 1), 0, 1, 2);
    sentence("40 showersBy: -13 is a sheet of another sort");
    each("sort", -13, v -> x.showersBy(1, v, 0, 1), 0, 2);
    each("sort, none of them", -13, v -> x.showersBy(1, v, 0, 0), 0, 2);
    sentence("40 showersBy: -13 is told ahead of -12");
    each("at", -13, v -> x.showersBy(1, 0, v, 1), -1, 1, 3, MIN, MAX);
    sentence("40 showersBy: -12 is a place outside");
    refusedBeyond("at", 0, 0, -12, v -> x.showersBy(1, 1, v, 1));
    refusedBeyond("at, four", 0, 0, -12, v -> x.showersBy(1, 1, v, 4));
    each("at, that wraps around", -12, v -> x.showersBy(1, 1, v, 4), MAX - 1, MAX - 2, MAX - 5, MAX - 8, MIN + 3, -3, -6, -9);
    due("count(0)", x.count(0), 0);
    sentence("40 showersBy: the last three of it are taken");
    due("at 0", x.showersBy(1, 1, 0, 1), 1);
    due("count(0)", x.count(0), 1);
    for (int size = 0; size < 3; size++) {
      sentence("40 showersBy: -12: the sheet ends behind " + size);
      x.sheet(3, 1, size);
      due("at 0", x.showersBy(3, 1, 0, 1), -12);
    }
    sentence("40 showersBy: -12: what stood ahead came");
    for (int size = 3; size <= 11; size++) {
      TooHotTooCold y = new TooHotTooCold();
      y.sheet(0, 2, size);
      due("of " + size, y.showersBy(0, 2, 0, 4), -12);
      due("count(0)", y.count(0), size / 3);
    }
    TooHotTooCold y = new TooHotTooCold();
    row(y, 0, 2, 60, 0, 0, 1, 1, 1, 2, 2);
    due("one was left out", y.showersBy(0, 2, 0, 3), -12);
    due("count(0)", y.count(0), 1);
    due("told(0, 1)", y.told(0, 1), 1);
    sentence("40 showersBy: -12, though none has room");
    TooHotTooCold full = with(0, 0, 1, 0, 0, 1, 0, 0, 1, 0, 0, 1);
    full.sheet(0, 2, 5);
    due("two", full.showersBy(0, 2, 0, 2), -12);
    due("one", full.showersBy(0, 2, 0, 1), 0);
    due("of the end", full.showersBy(0, 2, 2, 1), 0);
    due("behind", full.showersBy(0, 2, 3, 1), -12);
  }

  private static void taken() {
    TooHotTooCold x = with(0, 0, 0, 35, 0, 0);
    x.set(0, 2, 999);
    sentence("41 taken: BAD is a kind below 0 or above 6");
    refusedBeyond("kind", 0, 6, -2, v -> x.taken(0, v));
    refusedBeyond("kind", 0, 6, -2, v -> x.taken(4, v));
    sentence("41 taken: BAD is told ahead of -12, -11");
    each("i", -2, v -> x.taken(v, 7), -1, 8, 2, 6, MIN, MAX);
    each("i", -2, v -> x.taken(v, -1), -1, 8, 2, 6, MIN, MAX);
    for (int k = 0; k < 7; k++) {
      int kind = k;
      sentence("41 taken: -12 is a place below 0 or above 7, for kind " + k);
      refusedBeyond("i", 0, 7, -12, v -> x.taken(v, kind));
      sentence("41 taken: -11: nothing lies there, ahead of -13, for kind " + k);
      each("i", -11, v -> x.taken(v, kind), 2, 3, 6, 7);
      each("none there", -11, v -> new TooHotTooCold().taken(v, kind), 0, 1, 2, 3, 4, 5, 6, 7);
      sentence("41 taken: -11: set of one that is off, for kind " + k);
      each("i", -11, v -> off(with(0, 0, 0), 0).taken(v, kind), 4);
    }
    sentence("41 taken: set of one that is on, 0 and 999");
    due("taken(4, 6)", x.taken(4, 6), 999);
    due("taken(5, 6)", x.taken(5, 6), 0);
    sentence("41 taken: -13: a set is no shower");
    each("kind", -13, v -> x.taken(4, v), 0, 1, 2, 3, 4, 5);
    sentence("41 taken: -13: a shower is no set");
    each("i", -13, v -> x.taken(v, 6), 0, 1);
    sentence("41 taken: a shower that is off lies there all the same");
    due("taken(0, 0)", off(with(0, 0, 0), 0).taken(0, 0), 0);
    sentence("41 taken: the first and the last of four");
    TooHotTooCold four = with(0, 0, 0, 0, 0, 0, 0, 0, 0, 0, 0, 0);
    for (int who = 0; who < 4; who++) {
      four.set(who, 2, 100 * who + 7);
      due("the shower", four.taken(who, 0), who);
      due("its set", four.taken(4 + who, 6), 100 * who + 7);
    }
    takenByKind();
  }

  private static void takenByKind() {
    int[] isAlso = {1, 1 + 2, 1 + 4, 1 + 2 + 8, 1 + 4 + 16, 1 + 32};
    for (int kind = 0; kind < 6; kind++) {
      TooHotTooCold x = with(0, 0, 0, 10 * kind + 9, 0, 0);
      for (int as = 0; as < 6; as++) {
        boolean is = (isAlso[kind] >> as & 1) == 1;
        sentence("41 taken: kind " + kind + (is ? " is also kind " : " is no kind ") + as);
        due("taken(1, " + as + ")", x.taken(1, as), is ? 1 : -13);
      }
    }
  }
}
