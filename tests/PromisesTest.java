/** Promise by promise: ordinary calls, the edges, the refusals and of several the first one told. */
public final class PromisesTest {
  private static final int MIN = Integer.MIN_VALUE, MAX = Integer.MAX_VALUE;
  private static final String REST = ";costs 1;yells 0;";
  private static int wrong = 0;
  private static String promise = "";

  public static void main(String[] args) {
    aNewObject();
    count();
    feed();
    textNumbers();
    textFaults();
    textDepths();
    textsAnew();
    force();
    asks();
    asksByText();
    shower();
    set();
    told();
    atByKind();
    at();
    day();
    rests();
    sways();
    house();
    pass();
    best();
    line();
    soon();
    card();
    even();
    hurts();
    off();
    stills();
    leave();
    judge();
    whose();
    fits();
    kinds();
    laws();
    film();
    criers();
    heard();
    drawn();
    odds();
    image();
    back();
    sheet();
    cell();
    copy();
    showersBy();
    taken();
    System.out.println(wrong == 0 ? "all promises hold" : wrong + " answers are not as due");
    if (wrong != 0) System.exit(1);
  }

  private static void due(String call, long got, long want) {
    if (got == want) return;
    wrong++;
    System.out.println(promise + ": " + call + " answered " + got + ", due is " + want);
  }

  // ---- what several promises need

  private static void tape(TooHotTooCold x, String bytes) {
    for (int i = 0; i < bytes.length(); i++) x.feed(1, bytes.charAt(i), 0, 0, 0, 0);
  }

  private static int text(TooHotTooCold x, String bytes) {
    tape(x, bytes);
    return x.text();
  }

  /** A new object whose law is this text. */
  private static TooHotTooCold under(String bytes) {
    TooHotTooCold x = new TooHotTooCold();
    due("the text " + bytes, text(x, bytes), 1);
    x.force(1);
    return x;
  }

  private static TooHotTooCold with(int... showers) {
    TooHotTooCold x = new TooHotTooCold();
    for (int i = 0; i + 2 < showers.length; i += 3) x.shower(showers[i], showers[i + 1], showers[i + 2]);
    return x;
  }

  private static void row(TooHotTooCold x, int s, int sort, int... numbers) {
    x.sheet(s, sort, numbers.length);
    for (int i = 0; i < numbers.length; i++) x.cell(s, i, numbers[i]);
  }

  private static void felt(TooHotTooCold x, int who, int... warm) {
    for (int t = 0; t < warm.length; t++) due("at(" + who + ", " + t + ", 0)", x.at(who, t, 0), warm[t]);
  }

  private static void sets(TooHotTooCold x, int who, int... as) {
    for (int t = 0; t < as.length; t++) due("at(" + who + ", " + t + ", 1)", x.at(who, t, 1), as[t]);
  }

  private static int both(int cold, int was) {
    return 2000 * (cold + 1000) + was + 1000;
  }

  /** All that can be asked of what is kept, in one number. */
  private static long allTold(TooHotTooCold x) {
    long sum = 0;
    for (int what = 0; what < 5; what++) sum = sum * 31 + x.count(what);
    for (int who = 0; who < 4; who++) {
      for (int what = 0; what < 8; what++) sum = sum * 31 + x.told(who, what);
    }
    return sum;
  }

  /** What a refused sheet answers to those who tell by it: judge, whose, fits, kinds, laws, criers, heard. */
  private static int bySheet(TooHotTooCold x, int call, int s, int who, int sort) {
    switch (call) {
      case 0: return x.judge(s, who);
      case 1: return x.fits(s, who, sort);
      case 2: return x.kinds(s, who, sort);
      case 3: return x.laws(s, who);
      case 4: return x.heard(s, who);
      case 5: return x.whose(s);
      default: return x.criers(s);
    }
  }

  private static void sheetRefusals(int call) {
    TooHotTooCold x = with(0, 0, 50);
    for (int s : new int[] {-1, 4, MIN, MAX}) due("by sheet " + s, bySheet(x, call, s, 9, 9), -2);
    due("by a missing sheet", bySheet(x, call, 3, 9, 9), -11);
    x.sheet(3, 2, 31);
    due("by a sheet of 31", bySheet(x, call, 3, 9, 9), -2);
    x.sheet(3, 2, 30);
    if (call > 4) {
      due("by a sheet of 30", bySheet(x, call, 3, 0, 0), 0);
      return;
    }
    for (int who : new int[] {-1, 1, 4, MIN, MAX}) due("of shower " + who, bySheet(x, call, 3, who, 9), -5);
    if (call == 1 || call == 2) {
      for (int sort : new int[] {-1, 2, MIN, MAX}) due("of sort " + sort, bySheet(x, call, 3, 0, sort), -7);
    }
  }

  // ---- 1 to 6

  private static void aNewObject() {
    promise = "1 a new object";
    TooHotTooCold x = new TooHotTooCold();
    due("count(0)", x.count(0), 0);
    due("count(1)", x.count(1), 0);
    due("count(2)", x.count(2), 1);
    due("count(3)", x.count(3), 0);
    due("count(4)", x.count(4), 0);
    due("told(0, 0)", x.told(0, 0), -5);
    due("taken(0, 0)", x.taken(0, 0), -11);
    due("taken(4, 6)", x.taken(4, 6), -11);
    due("back()", x.back(), -3);
    for (int s = 0; s < 4; s++) due("cell(" + s + ", 0, 0)", x.cell(s, 0, 0), -11);
    due("house(0)", x.house(0), 0);
    due("NONE", TooHotTooCold.NONE, -1);
    due("BAD", TooHotTooCold.BAD, -2);
    due("STATE", TooHotTooCold.STATE, -3);
    due("FULL", TooHotTooCold.FULL, -4);
    due("NO", TooHotTooCold.NO, -4611686018427387904L);
  }

  private static void count() {
    promise = "2 count";
    TooHotTooCold x = with(0, 0, 1, 0, 0, 2, 0, 0, 3);
    due("count(0)", x.count(0), 3);
    due("count(1)", x.count(1), 7);
    x.set(1, 4, 0);
    due("count(1)", x.count(1), 5);
    due("a text", text(x, "turns 1" + REST), 1);
    due("count(2)", x.count(2), 2);
    due("count(3)", x.count(3), 0);
    x.force(1);
    due("count(3)", x.count(3), 1);
    tape(x, "abcdefg");
    due("count(4)", x.count(4), 7);
    for (int what : new int[] {-1, 5, MIN, MAX}) due("count(" + what + ")", x.count(what), -2);
  }

  private static void feed() {
    promise = "3 feed";
    TooHotTooCold x = new TooHotTooCold();
    for (int n : new int[] {0, 6, -1, MIN, MAX}) due("feed(" + n + ", ..)", x.feed(n, 1, 1, 1, 1, 1), -2);
    for (int bad : new int[] {-1, 256, MIN, MAX}) {
      due("a", x.feed(1, bad, 0, 0, 0, 0), -2);
      due("b", x.feed(1, 0, bad, 0, 0, 0), -2);
      due("c", x.feed(1, 0, 0, bad, 0, 0), -2);
      due("d", x.feed(1, 0, 0, 0, bad, 0), -2);
      due("e", x.feed(1, 0, 0, 0, 0, bad), -2);
    }
    due("count(4)", x.count(4), 0);
    due("255, 0", x.feed(2, 255, 0, 255, 255, 255), 2);
    due("text()", x.text(), -100);
    due("turns", x.feed(5, 't', 'u', 'r', 'n', 's'), 5);
    due(" 1;", x.feed(3, ' ', '1', ';', '?', '?'), 8);
    due("cost", x.feed(4, 'c', 'o', 's', 't', '?'), 12);
    due("s ", x.feed(2, 's', ' ', '?', '?', '?'), 14);
    due("2", x.feed(1, '2', '?', '?', '?', '?'), 15);
    due(";yell", x.feed(5, ';', 'y', 'e', 'l', 'l'), 20);
    due("s 3;", x.feed(4, 's', ' ', '3', ';', '?'), 24);
    due("text()", x.text(), 1);
    for (int i = 0; i < 31; i++) x.feed(5, 32, 32, 32, 32, 32);
    due("155 and 3", x.feed(3, 32, 32, 32, 32, 32), 158);
    due("no room for 3", x.feed(3, 32, 32, 32, 32, 32), -4);
    due("no room for 5", x.feed(5, 32, 32, 32, 32, 32), -4);
    due("BAD ahead of FULL", x.feed(5, 32, 32, 32, 32, 256), -2);
    due("count(4)", x.count(4), 158);
    due("room for 2", x.feed(2, 32, 32, 32, 32, 32), 160);
    due("no room for 1", x.feed(1, 32, 32, 32, 32, 32), -4);
    due("text()", x.text(), -260);
  }

  private static void textNumbers() {
    promise = "4 text";
    TooHotTooCold x = new TooHotTooCold();
    for (int t = 1; t < 6; t++) {
      due("a fault between", text(x, "turns"), -105);
      due("count(4)", x.count(4), 0);
      due("text()", text(x, "turns " + t + REST), t);
      due("count(4)", x.count(4), 0);
      due("count(2)", x.count(2), t + 1);
    }
    due("count(3)", x.count(3), 0);
    tape(x, "? ");
    due("FULL ahead of the fault", x.text(), -4);
    due("count(4)", x.count(4), 2);
    due("count(2)", x.count(2), 6);
    x = with(0, 0, 50);
    StringBuilder all = new StringBuilder("turns 1;costs 2;yells 3;");
    while (all.length() < 160) all.insert(6, all.length() % 2 == 0 ? ' ' : '\n');
    due("160 bytes", text(x, all.toString()), 1);
    x.force(1);
    due("asks(0, ..)", x.asks(0, 0, 0, 0, 0), 1);
    due("asks(1, ..)", x.asks(1, 0, 0, 0, 0), 2);
    due("asks(2, ..)", x.asks(2, 0, 0, 0, 0), 1);
  }

  /** The mark ^ stands ahead of the token at fault. */
  private static void fault(String marked) {
    int place = marked.indexOf('^');
    TooHotTooCold x = new TooHotTooCold();
    due("the fault in " + marked, text(x, marked.replace("^", "")), -100 - place);
    due("count(2)", x.count(2), 1);
    due("count(4)", x.count(4), 0);
  }

  private static void fine(String turns) {
    due("the text of " + turns, text(new TooHotTooCold(), "turns " + turns + REST), 1);
  }

  private static void textFaults() {
    promise = "4 text, faults";
    String[] marked = {
      "^", " \n ^", "^turn 1;", "^Turns 1;", "^costs 1;", " ^;", "^12;", "turns1^x", "turns^", "turns ^;", "turns 1^",
      "turns 1  \n^", "turns 1 ^costs 1;", "turns 1; ^yells 1;", "turns 1;costs 1;^costs 1;", "turns 1;costs 1;yells 1^",
      "turns 1;costs 1;yells 1;^;", "turns 1;costs 1;yells 1; ^turns 1;", "turns 1;costs 1;yells 1;\n^\t",
      "turns ^12345;", "turns ^00000;", "turns ^123456789012345678901234567890;", "turns 123 ^4;", "turns 12^cold;",
      "turns cold^2;", "turns 1234^cold;", "turns ^colder;", "turns ^notcold;", "turns ^x;",
      "turns ^Cold;", "turns ^colde;", "turns ^coldz;", "turns ^acold;", "turns ^told;", "^burns 1;",
      "turns ^cond;", "turns ^mord;", "turns ^zzz;", "turns ^col;", "turns ^col cold;", "turns cold^D;", "turns cold^A;", "turns ^turns;",
      "turns ^or 1;", "turns 1 or ^and 1;", "turns 1 and ^or 1;", "turns 1 or ^;", "turns 1 and ^;", "turns not ^;",
      "turns cold < was ^< set;", "turns cold = was ^= set;", "turns cold < was ^= set;", "turns cold < ^< was;",
      "turns cold + ^not was;", "turns cold * ^not was;", "turns cold < ^not was;", "turns - ^not cold;",
      "turns ^* cold;", "turns ^+ cold;", "turns ^< cold;", "turns ^= cold;", "turns cold * ^* cold;", "turns cold + ^+ cold;",
      "turns (cold ^;", "turns cold ^);", "turns (^);", "turns ((cold)^;", "turns (cold) ^(was);", "turns cold ^(was);",
      "turns cold ^not was;", "turns cold ^was;", "turns cold ^!;", "turns ^\tcold;", "turns cold ^\r;", "turns cold ^~",
      "turns cold ^/ was;", "turns cold ^, was;", "turns cold ^> was;", "turns ^\u00e9;", "turns ^\u0000;", "turns ^\u00ff;",
      "turns 1;costs ^;", "turns 1;costs 1;yells ^;", "turns ^`;", "turns ^{;", "turns ^/;", "turns ^:;",
    };
    for (String m : marked) fault(m);
    String[] fines = {
      "cold", "was", "set", "beat", "late", "more", "0", "9999", "0000", "1or 2", "1and 2", "1+2", "not 1", "not(1)", "not-1",
      "cold<was", "cold=was", "1+2*3-4", "(1<2)<3", "1<2 and 3<4 or 5=6", "1 - -2", "- - 1", "-(1)", "1*-2", "not not 1", "1<-2",
      "\n(\n1\n)\n",
    };
    for (String f : fines) fine(f);
  }

  private static void textDepths() {
    promise = "4 text, what is open";
    String[] fines = {
      "(((((1)))))", "-----1", "not not not not not 1", "not(-(-1))", "((((1))))+(((((1)))))", "-----1 - -----1",
      "-----1*-----1", "not not 1 and not not not not not 1", "not not 1 or not not not not not 1",
      "(not 1 or not not not not 1)", "not 1<((((1))))", "not 1<2 and (((((1)))))", "-1*(((((1)))))", "-(1)*(((((1)))))",
      "-((((1))))+-----1", "not(1<2) and not not not not not 1", "not not(1)or(((((1)))))", "(-1)+(((((2)))))",
    };
    for (String f : fines) fine(f);
    String[] marked = {
      "(((((^(1", "-----^-1", "not not not not not ^not 1", "not(-(-^(1", "not(-(-^-1", "(-(-(^not 1", "(-(-(^(1", "(-(-(^-1",
      "not not not not not ^(1", "not not not not not ^-1", "((((1))))+(((((^(1", "(((((1)))))+-----^-1",
      "(not 1 or not not not not ^not 1", "not 1<((((^(1", "not 1+1<((((^(1", "not 1*----^-1", "-((((^(1", "(((((1<^-1",
      "not not not 1 < (-^-1", "(not 1)+(((((^(1", "not(1)+((((^(1",
    };
    for (String m : marked) fault("turns " + m);
  }

  /** What was read ahead, well or not, takes no room from the next text. */
  private static void textsAnew() {
    promise = "4 text, anew";
    TooHotTooCold x = with(0, 0, 0);
    StringBuilder sum = new StringBuilder("turns 0-1");
    while (sum.length() < 160 - REST.length() - 1) sum.append("+1");
    int ones = (sum.length() - "turns 0-1".length()) / 2;
    for (int t = 1; t < 6; t++) {
      due("open at the end", text(x, "turns not(-(-"), -113);
      due("open at the end", text(x, "turns -----"), -111);
      due("a sum of " + ones, text(x, sum + REST), t);
      x.force(t);
      due("the sum", x.asks(0, 0, 0, 0, 0), ones - 1);
    }
    x = with(0, 0, 0);
    due("open at the end", text(x, "turns ((((("), -111);
    due("five open", text(x, "turns (((((7)))))" + REST), 1);
    x.force(1);
    due("five open", x.asks(0, 0, 0, 0, 0), 7);
    due("a fault leaves the law", text(x, "turns 8;costs 9;yells 1;;"), -124);
    due("a fault leaves the law", x.asks(0, 0, 0, 0, 0), 7);
    due("a fault leaves the law", x.asks(1, 0, 0, 0, 0), 1);
  }

  private static void force() {
    promise = "5 force";
    TooHotTooCold x = with(0, 0, 50);
    due("force(0)", x.force(0), 0);
    due("force(1)", x.force(1), -2);
    text(x, "turns 7" + REST);
    text(x, "turns 8" + REST);
    due("force(2)", x.force(2), 0);
    due("asks", x.asks(0, 0, 0, 0, 0), 8);
    due("force(1)", x.force(1), 2);
    due("asks", x.asks(0, 0, 0, 0, 0), 7);
    for (int t : new int[] {-1, 3, 5, 6, MIN, MAX}) due("force(" + t + ")", x.force(t), -2);
    due("count(3)", x.count(3), 1);
    due("force(0)", x.force(0), 1);
  }

  private static void asks() {
    promise = "6 asks";
    TooHotTooCold x = with(0, 0, 50);
    due("turns 40", x.asks(0, both(40, 0), 0, 0, 0), 40);
    due("turns 100", x.asks(0, both(100, 0), 0, 0, 0), 99);
    due("turns -100", x.asks(0, both(-100, 0), 0, 0, 0), -99);
    due("turns -99", x.asks(0, both(-99, 0), 0, 0, 0), -99);
    due("costs -9", x.asks(1, both(-9, 0), 0, 0, 0), 81);
    due("costs 10", x.asks(1, both(10, 0), 0, 0, 0), 99);
    due("yells -20", x.asks(2, both(-20, 0), 0, 0, 0), 0);
    due("yells -21", x.asks(2, both(-21, 0), 0, 0, 0), 1);
    for (int who : new int[] {-1, 1, MIN, MAX}) due("shower " + who, x.asks(9, -1, -1, -1, who), -1000);
    for (int part : new int[] {-1, 3, MIN, MAX}) due("part " + part, x.asks(part, 0, 0, 0, 0), -2000);
    for (int c : new int[] {-1, 4000000, MIN, MAX}) due("coldWas " + c, x.asks(0, c, 0, 0, 0), -2000);
    for (int s : new int[] {-1, 1000, MIN, MAX}) due("set " + s, x.asks(0, 0, s, 0, 0), -2000);
    for (int t : new int[] {-1, 30, MIN, MAX}) due("beat " + t, x.asks(0, 0, 0, t, 0), -2000);
    x = under("turns cold+999;costs was+999;yells was+1000;");
    x.shower(0, 0, 0);
    due("cold -1000", x.asks(0, 0, 0, 0, 0), -1);
    due("was -1000", x.asks(1, 0, 0, 0, 0), 0);
    due("was -1000", x.asks(2, 0, 0, 0, 0), 0);
    due("was -998", x.asks(1, 2, 0, 0, 0), 1);
    due("was -999 is yelled at", x.asks(2, 1, 0, 0, 0), 1);
    x = under("turns cold-999;costs was-950;yells set=999 and beat=29;");
    x.shower(0, 0, 0);
    due("cold 999", x.asks(0, 3999999, 0, 0, 0), 0);
    due("was 999", x.asks(1, 3999999, 0, 0, 0), 49);
    due("set 999 in beat 29", x.asks(2, 0, 999, 29, 0), 1);
    due("set 998 in beat 29", x.asks(2, 0, 998, 29, 0), 0);
    due("set 999 in beat 28", x.asks(2, 0, 999, 28, 0), 0);
  }

  private static void says(String turns, int want) {
    TooHotTooCold x = under("turns " + turns + REST);
    x.shower(7, 3, 0);
    due("turns " + turns, x.asks(0, both(-5, 12), 44, 6, 0), want);
    x.set(0, 4, 0);
    due("turns " + turns + ", off", x.asks(0, both(-5, 12), 44, 6, 0), want);
  }

  private static void asksByText() {
    promise = "6 asks, by text";
    says("cold", -5);
    says("was", 12);
    says("set", 44);
    says("beat", 6);
    says("late", 3);
    says("more", 7);
    says("1-2-3", -4);
    says("2+3*4", 14);
    says("(2+3)*4", 20);
    says("-2*3", -6);
    says("--2", 2);
    says("not 1=2", 1);
    says("not 2<3", 0);
    says("1 or 0 and 0", 1);
    says("(1 or 0) and 0", 0);
    says("not 0 and 0", 0);
    says("not(0 and 0)", 1);
    says("3 and 5", 1);
    says("3 and 0", 0);
    says("0 and 3", 0);
    says("7 or 0", 1);
    says("0 or 7", 1);
    says("0 or 0", 0);
    says("-7 or 0", 1);
    says("not 5", 0);
    says("not not 5", 1);
    says("2<1+5", 1);
    says("2<2", 0);
    says("2=2", 1);
    says("3=2", 0);
    says("cold<was", 1);
    says("was<cold", 0);
    says("0 or 0 or 9", 1);
    says("1 and 1 and 0", 0);
    says("9999*9999*9999-((9999*9999*9999))+5", 5);
    says("9999*9999*30<0", 1);
    says("9999*9999*21<0", 0);
    says("9999*9999*9*9*9*9*9", 9999 * 9999 * 9 * 9 * 9 * 9 * 9 < 0 ? -99 : 99);
    says("100", 99);
    says("0-100", -99);
    says("0098", 98);
    says("1+(2+(3+(4+(5+(6)))))", 21);
    says("1 or 1 and 1<1+1*(1 or 1 and 1<1+1*(1 or 1 and 1<1+1*(1 or 1 and 1<1+1*(1 or 0 and 1<1+1*(2-7)))))", 1);
    says("0 or 1 and 2<3+4*(0 or 1 and 0<0+4*(0 or 1 and 0<0+4*(0 or 1 and 0<0+4*(0 or 1 and 0<0+4*(2+7)))))", 1);
    says("0 or 1 and 9<3+4*(0 or 1 and 0<0+4*(0 or 1 and 0<0+4*(0 or 1 and 0<0+4*(0 or 1 and 0<0+4*(2-7)))))", 0);
    TooHotTooCold x = under("turns 1;costs 0-1;yells 0-1;");
    x.shower(0, 0, 0);
    due("costs -1", x.asks(1, 0, 0, 0, 0), 0);
    due("yells -1", x.asks(2, 0, 0, 0, 0), 1);
  }

  // ---- 7 to 9

  private static void shower() {
    promise = "7 shower";
    TooHotTooCold x = new TooHotTooCold();
    for (int k : new int[] {-1, 60, MIN, MAX}) due("shower(" + k + ", ..)", x.shower(k, 0, 0), -2);
    for (int so : new int[] {-1, 5, MIN, MAX}) due("so " + so, x.shower(0, so, 0), -2);
    for (int w : new int[] {-1, 1000, MIN, MAX}) due("warm " + w, x.shower(0, 0, w), -2);
    due("count(0)", x.count(0), 0);
    due("shower(59, 4, 999)", x.shower(59, 4, 999), 0);
    int[] want = {4, 999, 0, 8, 1, 5, 9, 14};
    for (int what = 0; what < 8; what++) due("told(0, " + what + ")", x.told(0, what), want[what]);
    due("shower(0, 0, 0)", x.shower(0, 0, 0), 1);
    due("shower(37, 2, 345)", x.shower(37, 2, 345), 2);
    due("shower(20, 2, 345)", x.shower(20, 2, 345), 3);
    due("shower(20, 2, 345)", x.shower(20, 2, 345), -4);
    due("BAD ahead of FULL", x.shower(0, 0, 1000), -2);
    due("count(0)", x.count(0), 4);
    due("count(1)", x.count(1), 15);
  }

  private static void set() {
    promise = "8 set";
    TooHotTooCold x = with(0, 1, 60, 12, 3, 700);
    int[] first = {3, 700, 0, 8, 1};
    int[] most = {4, 999, 999, 16, 1};
    for (int what = 0; what < 5; what++) {
      due("what " + what + " most", x.set(1, what, most[what]), first[what]);
      for (int v : new int[] {-1, most[what] + 1, MIN, MAX}) due("what " + what + " as " + v, x.set(1, what, v), -7);
      due("what " + what + " 0", x.set(1, what, 0), most[what]);
      due("told(1, " + what + ")", x.told(1, what), 0);
    }
    due("told(0, 0)", x.told(0, 0), 1);
    due("told(0, 1)", x.told(0, 1), 60);
    due("told(0, 3)", x.told(0, 3), 8);
    due("told(0, 4)", x.told(0, 4), 1);
    for (int what : new int[] {-1, 5, MIN, MAX}) due("what " + what, x.set(0, what, 0), -7);
    for (int who : new int[] {-1, 2, MIN, MAX}) due("shower " + who, x.set(who, 9, -9), -5);
  }

  private static void told() {
    promise = "9 told";
    int[] scalds = {50, 50, 50, 120, 50, 22};
    for (int kind = 0; kind < 6; kind++) {
      TooHotTooCold x = with(0, 0, 0, 10 * kind + 7, 3, 456);
      x.set(1, 2, 78);
      x.set(1, 3, 9);
      x.set(1, 4, 0);
      int[] want = {3, 456, 78, 9, 0, kind, 7, scalds[kind]};
      for (int what = 0; what < 8; what++) due("told(1, " + what + ") of kind " + kind, x.told(1, what), want[what]);
    }
    TooHotTooCold x = with(30, 0, 0, 50, 0, 0);
    due("a boiler of 0", x.told(0, 7), 50);
    due("an old one of 0", x.told(1, 7), 50);
    for (int what : new int[] {-1, 8, MIN, MAX}) due("told(0, " + what + ")", x.told(0, what), -7);
    for (int who : new int[] {-1, 2, MIN, MAX}) due("told(" + who + ", 9)", x.told(who, 9), -5);
  }

  // ---- 10 to 15

  private static void at() {
    promise = "10 at";
    TooHotTooCold x = with(0, 0, 100);
    felt(x, 0, 0, 99, 100, 100);
    sets(x, 0, 99, 100, 100, 100);
    due("at(0, 0, 2)", x.at(0, 0, 2), 100);
    due("at(0, 1, 2)", x.at(0, 1, 2), 1);
    due("at(0, 29, 2)", x.at(0, 29, 2), 0);
    x = with(0, 1, 50);
    felt(x, 0, 0, 0, 50, 100, 100, 50, 0, 0, 50, 100);
    sets(x, 0, 50, 100, 100, 50, 0, 0, 50, 100);
    x = with(0, 3, 20);
    felt(x, 0, 0, 0, 0, 0, 20, 40, 60, 80);
    x = with(0, 4, 20);
    felt(x, 0, 0, 0, 0, 0, 0, 20, 40, 60);
    x.set(0, 2, 20);
    felt(x, 0, 20, 20, 20, 20, 20, 20);
    x = with(0, 0, 50);
    x.set(0, 2, 55);
    x.set(0, 3, 3);
    sets(x, 0, 54, 53, 52, 52);
    x.set(0, 3, 0);
    sets(x, 0, 55, 55);
    x.set(0, 3, 16);
    sets(x, 0, 45, 55, 45);
    x.set(0, 4, 0);
    sets(x, 0, 55, 55, 55);
    felt(x, 0, 55, 55);
    x = with(0, 4, 999);
    x.set(0, 3, 16);
    x.set(0, 2, 900);
    sets(x, 0, 999, 999);
    x = with(0, 4, 0);
    x.set(0, 3, 16);
    x.set(0, 2, 100);
    sets(x, 0, 0, 0);
    due("at(0, 0, 2)", x.at(0, 0, 2), -100);
    for (int who : new int[] {-1, 1, MIN, MAX}) due("shower " + who, x.at(who, 99, 99), -100000);
    for (int t : new int[] {-1, 30, MIN, MAX}) due("beat " + t, x.at(0, t, 0), -200000);
    for (int what : new int[] {-1, 3, MIN, MAX}) due("what " + what, x.at(0, 0, what), -200000);
    x = under("turns was-cold+set*0+beat+late*10;costs 1;yells 0;");
    x.shower(0, 1, 10);
    sets(x, 0, 10, 21, 43, 67, 103);
    x = under("turns was-cold+7;costs 1;yells 0;");
    x.shower(0, 0, 10);
    sets(x, 0, 7, 21, 42, 70);
    x = under("turns 0-set;costs 1;yells 0;");
    x.shower(0, 4, 10);
    x.set(0, 2, 90);
    sets(x, 0, 0, 0);
  }

  private static void atByKind() {
    promise = "10 at, by kind";
    TooHotTooCold x = with(13, 0, 500, 0, 0, 500, 0, 0, 500);
    for (int who = 0; who < 3; who++) x.set(who, 3, 0);
    x.set(0, 2, 300);
    x.set(1, 2, 301);
    felt(x, 0, 293, 293);
    felt(x, 1, 301, 301);
    x.set(2, 2, 999);
    felt(x, 0, 286);
    x.set(1, 4, 0);
    felt(x, 0, 293);
    x.set(2, 4, 0);
    felt(x, 0, 300);
    x.set(2, 4, 1);
    x.set(2, 2, 300);
    felt(x, 0, 300);
    x.set(0, 2, 5);
    felt(x, 0, 0);
    x.set(0, 4, 0);
    felt(x, 0, 0);
    x.set(0, 2, 100);
    felt(x, 0, 93);
    x = with(10, 2, 500, 0, 0, 500);
    x.set(0, 3, 0);
    x.set(0, 2, 100);
    x.set(1, 2, 50);
    felt(x, 0, 100, 99, 99, 99);
    x = with(22, 0, 100);
    sets(x, 0, 99, 99);
    x.set(0, 2, 90);
    sets(x, 0, 99, 99);
    x.set(0, 2, 105);
    sets(x, 0, 102, 102);
    x = with(20, 0, 100);
    x.set(0, 2, 93);
    sets(x, 0, 100);
    x = with(40, 0, 100);
    x.set(0, 2, 93);
    sets(x, 0, 100);
    x = with(32, 0, 100, 0, 0, 0);
    x.set(0, 3, 0);
    x.set(1, 3, 0);
    x.set(0, 2, 81);
    felt(x, 0, 81, 81, 81, 40, 81, 81, 81, 40);
    x.set(1, 2, 90);
    felt(x, 0, 76, 76, 76, 38, 76, 76, 76, 38);
    x.set(0, 2, 3);
    felt(x, 0, 0, 0, 0, 0);
    x = with(30, 0, 100);
    x.set(0, 3, 0);
    x.set(0, 2, 99);
    felt(x, 0, 99, 49, 99, 49);
    x = with(43, 0, 100);
    x.set(0, 2, 91);
    sets(x, 0, 99, 99);
    x.set(0, 2, 92);
    sets(x, 0, 92, 92);
    x.set(0, 2, 108);
    sets(x, 0, 108, 108);
    x.set(0, 2, 109);
    sets(x, 0, 101, 101);
    x.set(0, 2, 90);
    sets(x, 0, 98, 98);
    x = with(49, 0, 100);
    x.set(0, 2, 72);
    sets(x, 0, 92);
    x.set(0, 2, 73);
    sets(x, 0, 93);
    x.set(0, 2, 74);
    sets(x, 0, 74);
    x = with(53, 0, 100);
    x.set(0, 2, 17);
    sets(x, 0, 17, 17, 17);
    felt(x, 0, 17, 17);
  }

  private static void day() {
    promise = "11 day";
    TooHotTooCold x = with(0, 0, 100);
    due("day(0, 0)", x.day(0, 0), 99 + 1);
    due("day(0, 1)", x.day(0, 1), 0);
    due("day(0, 2)", x.day(0, 2), 0);
    due("day(0, 3)", x.day(0, 3), 100);
    x = with(0, 1, 50);
    due("day(0, 0)", x.day(0, 0), 99 * 20);
    due("day(0, 1)", x.day(0, 1), 0b011000011000011000011000011000);
    due("day(0, 2)", x.day(0, 2), 10);
    due("day(0, 3)", x.day(0, 3), 100);
    x.set(0, 4, 0);
    x.set(0, 2, 700);
    due("off, day(0, 0)", x.day(0, 0), 0);
    due("off, day(0, 1)", x.day(0, 1), 0);
    due("off, day(0, 2)", x.day(0, 2), 0);
    due("off, day(0, 3)", x.day(0, 3), 700);
    x = with(0, 0, 50);
    x.set(0, 3, 0);
    x.set(0, 2, 99);
    due("49 too hot", x.day(0, 2), 0);
    x.set(0, 2, 100);
    due("50 too hot", x.day(0, 2), 30);
    due("crying for ever", x.day(0, 1), (1 << 30) - 1);
    x.set(0, 2, 70);
    due("20 too hot", x.day(0, 1), 0);
    x.set(0, 2, 71);
    due("21 too hot", x.day(0, 1), (1 << 30) - 1);
    x = with(59, 0, 50);
    x.set(0, 2, 63);
    due("13 too hot for an old one", x.day(0, 2), 0);
    x.set(0, 2, 64);
    due("14 too hot for an old one", x.day(0, 2), 30);
    x = with(0, 0, 500, 50, 0, 9);
    x.set(0, 2, 600);
    due("the most in beat 0", x.day(0, 3), 600);
    due("cold for ever", x.day(1, 3), 0);
    for (int who : new int[] {-1, 2, MIN, MAX}) due("shower " + who, x.day(who, 9), -5);
    for (int what : new int[] {-1, 4, MIN, MAX}) due("what " + what, x.day(0, what), -7);
  }

  private static void rests() {
    promise = "12 rests";
    TooHotTooCold x = with(0, 0, 100);
    due("rests(0, 0)", x.rests(0, 0), 2);
    due("rests(0, 1)", x.rests(0, 1), 1);
    due("rests(0, 99)", x.rests(0, 99), 1);
    due("rests(0, 100)", x.rests(0, 100), 0);
    due("rests(0, 999)", x.rests(0, 999), 0);
    x = with(0, 1, 50);
    due("rests(0, 49)", x.rests(0, 49), 29);
    due("rests(0, 50)", x.rests(0, 50), 0);
    x = with(0, 0, 50);
    x.set(0, 3, 0);
    due("rests(0, 49)", x.rests(0, 49), -1);
    x.set(0, 2, 100);
    due("too hot, rests(0, 49)", x.rests(0, 49), -1);
    due("too hot, rests(0, 50)", x.rests(0, 50), 0);
    x.set(0, 4, 0);
    due("off, rests(0, 50)", x.rests(0, 50), 0);
    for (int who : new int[] {-1, 1, MIN, MAX}) due("shower " + who, x.rests(who, -9), -5);
    for (int near : new int[] {-1, 1000, MIN, MAX}) due("near " + near, x.rests(0, near), -7);
  }

  private static void sways() {
    promise = "13 sways";
    TooHotTooCold x = with(0, 1, 50, 0, 0, 999);
    due("sways(0)", x.sways(0), 100);
    due("sways(1)", x.sways(1), 0);
    for (int who : new int[] {-1, 2, MIN, MAX}) due("shower " + who, x.sways(who), -5);
    x = under("turns (beat=19)*50+(beat=28)*7+(beat=29)*9;costs 1;yells 0;");
    x.shower(0, 0, 10);
    due("of beats 20 to 29", x.sways(0), 7);
    x = under("turns (beat=18)*50+(beat=20)*5;costs 1;yells 0;");
    x.shower(0, 0, 10);
    x.shower(0, 1, 10);
    due("of beats 20 to 29", x.sways(0), 5);
    due("of beats 20 to 29, late", x.sways(1), 5);
    x = under("turns 9;costs 1;yells 0;");
    x.shower(0, 0, 10);
    due("9 beats", x.sways(0), 81);
    x = under("turns 0-(beat=18)*90-(beat=25)*4;costs 1;yells 0;");
    x.shower(0, 0, 10);
    x.set(0, 2, 100);
    due("of beats 20 to 29, falling", x.sways(0), 4);
    x = under("turns 0-(beat=19)*90-(beat=28)*4;costs 1;yells 0;");
    x.shower(0, 0, 10);
    x.set(0, 2, 100);
    due("of beats 20 to 29, falling", x.sways(0), 4);
    x.set(0, 0, 1);
    due("of beats 20 to 29, falling late", x.sways(0), 90);
  }

  private static void house() {
    promise = "14 house";
    TooHotTooCold x = with(0, 0, 100, 0, 1, 50, 0, 0, 999);
    due("house(0)", x.house(0), 100 + 1980 + x.day(2, 0));
    due("house(1)", x.house(1), 2);
    due("house(2)", x.house(2), 3);
    x.set(1, 4, 0);
    due("house(0)", x.house(0), 100 + x.day(2, 0));
    due("house(1)", x.house(1), 0);
    due("house(2)", x.house(2), -1);
    x = under("turns 0;costs beat;yells beat=late or beat=more+late or beat=29;");
    x.shower(3, 0, 0);
    x.shower(9, 1, 0);
    x.shower(2, 1, 0);
    x.shower(3, 2, 0);
    due("the costs", x.house(0), 4 * 435);
    due("all cry", x.house(1), 15);
    due("most cry at the end", x.house(2), 29);
    x.set(3, 4, 0);
    x.set(2, 4, 0);
    due("two cry", x.house(1), 3);
    due("the last beat", x.house(2), 29);
    x = under("turns 0;costs 99;yells beat=late*2+7;");
    x.shower(0, 0, 0);
    x.shower(0, 1, 0);
    due("of like ones the first", x.house(2), 7);
    x.set(0, 0, 3);
    due("of like ones the first", x.house(2), 9);
    due("the costs", x.house(0), 2 * 30 * 99);
    x = under("turns 0;costs 1;yells beat<9;");
    x.shower(0, 0, 0);
    due("beat 0", x.house(2), 0);
    due("none", new TooHotTooCold().house(2), -1);
    for (int what : new int[] {-1, 3, MIN, MAX}) due("what " + what, x.house(what), -2);
  }

  private static void pass() {
    promise = "15 pass";
    TooHotTooCold x = with(0, 1, 50, 0, 0, 100);
    due("pass(0)", x.pass(0), 0);
    due("told(0, 2)", x.told(0, 2), 0);
    due("pass(1)", x.pass(1), 99 + 99);
    due("told(0, 2)", x.told(0, 2), 50);
    due("told(1, 2)", x.told(1, 2), 99);
    felt(x, 0, 50, 50);
    due("pass(1)", x.pass(1), 1);
    due("told(0, 2)", x.told(0, 2), 50);
    due("told(1, 2)", x.told(1, 2), 100);
    x = with(0, 1, 50);
    due("pass(2)", x.pass(2), 198);
    due("told(0, 2)", x.told(0, 2), 100);
    felt(x, 0, 100, 100, 50);
    x = with(0, 1, 50);
    int cost = x.house(0), end = x.at(0, 29, 1);
    due("pass(30)", x.pass(30), cost);
    due("told(0, 2)", x.told(0, 2), end);
    x.set(0, 4, 0);
    x.set(0, 2, 7);
    due("off, pass(30)", x.pass(30), 0);
    due("off, told(0, 2)", x.told(0, 2), 7);
    for (int n : new int[] {-1, 31, MIN, MAX}) due("pass(" + n + ")", x.pass(n), -2);
    TooHotTooCold full = with(0, 0, 1, 0, 0, 2, 0, 0, 3, 0, 0, 4);
    due("four", full.house(0), 1 + 4 + 9 + 16);
    due("four, off(0)", full.off(0), 3);
    due("four, off(1)", full.off(1), 1 + 4 + 9);
    due("four, odds", full.odds(0, 1, 999, 0), 1);
    due("four, pass(1)", full.pass(1), 1 + 4 + 9 + 16);
    for (int who = 0; who < 4; who++) due("four, told(" + who + ", 2)", full.told(who, 2), who + 1);
    due("told(0, 2)", x.told(0, 2), 7);
    x = under("turns cold-was+1;costs 1;yells 0;");
    x.shower(0, 0, 50);
    x.pass(3);
    due("told(0, 2)", x.told(0, 2), x.at(0, 0, 0));
    due("was begins anew", x.at(0, 0, 1), x.told(0, 2) + 1);
  }

  // ---- 16 to 20

  private static void best() {
    promise = "16 best";
    TooHotTooCold x = with(0, 0, 50);
    x.set(0, 3, 5);
    due("best(0, 0)", x.best(0, 0), 8);
    due("best(0, 1)", x.best(0, 1), 99);
    due("told(0, 3)", x.told(0, 3), 5);
    x = with(0, 0, 100, 0, 1, 60);
    due("best(0, 0)", x.best(0, 0), 8);
    due("best(0, 1)", x.best(0, 1), 100);
    due("best(1, 0)", x.best(1, 0), 3);
    due("best(1, 1)", x.best(1, 1), 466);
    x.set(1, 4, 0);
    due("off, best(1, 0)", x.best(1, 0), 0);
    due("off, best(1, 1)", x.best(1, 1), 0);
    x = under("turns 8;costs 99-set;yells 0;");
    x.shower(0, 0, 0);
    due("the hastiest is best", x.best(0, 0), 16);
    due("the hastiest is best", x.best(0, 1), 99 + 83 + 67 + 51 + 35 + 19 + 3);
    x.set(0, 2, 99);
    due("of like ones the least", x.best(0, 0), 0);
    for (int who : new int[] {-1, 1, MIN, MAX}) due("shower " + who, x.best(who, 9), -5);
    for (int what : new int[] {-1, 2, MIN, MAX}) due("what " + what, x.best(0, what), -7);
  }

  private static void line() {
    promise = "17 line";
    TooHotTooCold x = with(0, 1, 60, 0, 0, 50, 50, 0, 50);
    due("line(0, 5)", x.line(0, 5), 8);
    due("line(0, 999)", x.line(0, 999), 16);
    due("line(1, 999)", x.line(1, 999), 16);
    due("line(1, 49)", x.line(1, 49), 15);
    due("line(2, 49)", x.line(2, 49), -1);
    due("line(2, 50)", x.line(2, 50), 16);
    due("told(0, 3)", x.told(0, 3), 8);
    x = under("turns 8;costs 1;yells 0;");
    x.shower(0, 0, 30);
    x.set(0, 2, 30);
    due("haste 0 alone", x.line(0, 0), 0);
    due("a beat later", x.line(0, 29), 1);
    for (int who : new int[] {-1, 1, MIN, MAX}) due("shower " + who, x.line(who, -9), -5);
    for (int near : new int[] {-1, 1000, MIN, MAX}) due("near " + near, x.line(0, near), -7);
  }

  private static void soon() {
    promise = "18 soon";
    TooHotTooCold x = with(0, 0, 50, 50, 0, 50);
    due("soon(0, 0, 0)", x.soon(0, 0, 0), 8);
    due("soon(0, 0, 1)", x.soon(0, 0, 1), 1);
    due("soon(0, 50, 0)", x.soon(0, 50, 0), 0);
    due("soon(0, 50, 1)", x.soon(0, 50, 1), 0);
    due("soon(0, 49, 0)", x.soon(0, 49, 0), 1);
    due("soon(0, 49, 1)", x.soon(0, 49, 1), 1);
    due("soon(0, 7, 0)", x.soon(0, 7, 0), 7);
    due("soon(1, 49, 0)", x.soon(1, 49, 0), -1);
    due("soon(1, 49, 1)", x.soon(1, 49, 1), -1);
    due("soon(1, 50, 0)", x.soon(1, 50, 0), 0);
    due("told(0, 3)", x.told(0, 3), 8);
    x = under("turns (beat=0)*8;costs 99-set;yells 0;");
    x.shower(0, 0, 16);
    x.shower(0, 0, 15);
    due("the hastiest is soonest", x.soon(0, 0, 0), 16);
    due("the hastiest is soonest", x.soon(0, 0, 1), 1);
    due("the card's hastiest", x.card(0), 16);
    due("the card's hastiest", x.card(1), 2 * (99 + 29 * (99 - 16)));
    due("the second's soonest", x.soon(1, 0, 0), 15);
    for (int who : new int[] {-1, 2, MIN, MAX}) due("shower " + who, x.soon(who, -9, 9), -5);
    for (int near : new int[] {-1, 1000, MIN, MAX}) due("near " + near, x.soon(0, near, 0), -7);
    for (int what : new int[] {-1, 2, MIN, MAX}) due("what " + what, x.soon(0, 0, what), -7);
    x = with(50, 0, 50);
    due("there is none", x.soon(0, 49, 0), -1);
    due("what, though there is none", x.soon(0, 49, 2), -7);
  }

  private static void card() {
    promise = "19 card";
    TooHotTooCold x = with(0, 0, 50, 0, 0, 30);
    x.set(0, 3, 1);
    x.set(1, 3, 16);
    due("card(0)", x.card(0), 8);
    due("card(1)", x.card(1), 198);
    due("told(0, 3)", x.told(0, 3), 1);
    due("told(1, 3)", x.told(1, 3), 16);
    x = with(0, 1, 60, 13, 2, 80, 24, 0, 75, 32, 1, 300);
    due("card(0)", x.card(0), 4);
    due("card(1)", x.card(1), 6571);
    x = with(50, 0, 50);
    due("of like ones the least", x.card(0), 0);
    due("of like ones the least", x.card(1), 2970);
    due("nobody's", new TooHotTooCold().card(0), 0);
    due("nobody's", new TooHotTooCold().card(1), 0);
    for (int what : new int[] {-1, 2, MIN, MAX}) due("what " + what, x.card(what), -2);
  }

  private static void even() {
    promise = "20 even";
    TooHotTooCold x = with(0, 0, 50, 0, 0, 30, 50, 0, 30);
    due("none changes", x.even(0, 1, 0), 0);
    due("none changes", x.even(0, 1, 1), 808);
    due("one changes", x.even(0, 2, 0), 1);
    due("one changes", x.even(0, 2, 1), 800);
    due("one changes", x.even(2, 0, 0), 1);
    due("one changes", x.even(2, 0, 1), 8);
    x.set(0, 3, 3);
    due("both change", x.even(0, 2, 0), 2);
    due("told(0, 3)", x.told(0, 3), 3);
    due("told(2, 3)", x.told(2, 3), 8);
    x = with(0, 1, 60, 13, 2, 80, 24, 0, 75, 32, 1, 300);
    due("even(0, 1, 0)", x.even(0, 1, 0), 2);
    due("even(0, 1, 1)", x.even(0, 1, 1), 302);
    due("even(1, 0, 1)", x.even(1, 0, 1), 203);
    for (int who : new int[] {-1, 4, MIN, MAX}) {
      due("shower " + who, x.even(who, 0, 9), -5);
      due("shower " + who, x.even(0, who, 9), -5);
    }
    due("alike", x.even(1, 1, 9), -5);
    for (int what : new int[] {-1, 2, MIN, MAX}) due("what " + what, x.even(0, 1, what), -7);
    evenWithoutEnd();
  }

  private static void evenWithoutEnd() {
    for (int[] e : new int[][] {{34, 2, 221, 17, 2, 247, 217, 151}, {35, 1, 275, 39, 2, 235, 129, 264}, {37, 0, 4, 31, 2, 80, 204, 0}}) {
      TooHotTooCold x = with(e[0], e[1], e[2], e[3], e[4], e[5]);
      x.set(0, 2, e[6]);
      x.set(1, 2, e[7]);
      due("it doesn't end, 0", x.even(0, 1, 0), -1);
      due("it doesn't end, 1", x.even(0, 1, 1), -1);
      due("it doesn't end, 0", x.even(1, 0, 0), -1);
    }
    race(132, 0, 8, 16);
    race(132, 0, 7, 18);
    race(131, 0, 7, 17);
    race(131, 0, 6, -1);
    race(132, 0, 6, -1);
    race(132, 8, 7, 17);
    race(131, 7, 6, -1);
  }

  /** Each wants to be as high as the other, the second one stands a little higher: step by step both rise to an end. */
  private static void race(int end, int hasteOfTheFirst, int hasteOfTheSecond, int changes) {
    TooHotTooCold x = under("turns (beat=0)*16;costs set-100+50*(set+cold)*(set<" + end + ");yells 0;");
    x.shower(10, 0, 0);
    x.shower(10, 0, 0);
    x.set(0, 2, 100);
    x.set(1, 2, 101);
    x.set(0, 3, hasteOfTheFirst);
    x.set(1, 3, hasteOfTheSecond);
    String race = "a race to " + end + " from " + hasteOfTheFirst + ", " + hasteOfTheSecond;
    due(race, x.even(0, 1, 0), changes);
    due(race, x.even(0, 1, 1), changes < 0 ? -1 : 1600 + (end - 100) / 2);
  }

  // ---- 21 to 24

  private static void hurts() {
    promise = "21 hurts";
    TooHotTooCold x = with(10, 0, 100, 0, 0, 0, 10, 0, 100);
    for (int who = 0; who < 3; who++) x.set(who, 3, 0);
    x.set(0, 2, 100);
    x.set(1, 2, 200);
    x.set(2, 2, 99);
    due("a hurts by 1 a beat", x.hurts(1, 0), 30);
    due("the lower doesn't hurt", x.hurts(2, 0), 0);
    due("felt 97, were it not on 98", x.hurts(1, 2), 30 * (9 - 4));
    due("felt 97, were it not on 98", x.hurts(0, 2), 30 * (9 - 4));
    x.set(0, 2, 97);
    x.set(0, 1, 90);
    due("who wants less is helped", x.hurts(1, 0), 30 * (25 - 36));
    x.set(1, 4, 0);
    due("who is off doesn't hurt", x.hurts(1, 0), 0);
    due("who is off isn't hurt", x.hurts(0, 1), 0);
    due("told(0, 4)", x.told(0, 4), 1);
    for (int who : new int[] {-1, 3, MIN, MAX}) {
      due("shower " + who, x.hurts(who, 0), -100000);
      due("shower " + who, x.hurts(0, who), -100000);
    }
    due("alike", x.hurts(2, 2), -100000);
  }

  private static void off() {
    promise = "22 off";
    TooHotTooCold x = with(0, 0, 5, 0, 0, 9, 0, 0, 8);
    due("off(0)", x.off(0), 1);
    due("off(1)", x.off(1), 25 + 64);
    x.set(1, 4, 0);
    due("off(0)", x.off(0), 2);
    due("off(1)", x.off(1), 25);
    x.set(2, 1, 5);
    due("of like ones the first", x.off(0), 0);
    due("of like ones the first", x.off(1), 25);
    x.set(0, 4, 0);
    due("off(0)", x.off(0), 2);
    due("off(1)", x.off(1), 0);
    due("count(1)", x.count(1), 4);
    x.set(2, 4, 0);
    due("none is on", x.off(0), -1);
    due("none is on", x.off(1), -1);
    x.set(2, 4, 1);
    for (int what : new int[] {-1, 2, MIN, MAX}) due("what " + what, x.off(what), -2);
  }

  private static void stills() {
    promise = "23 stills";
    TooHotTooCold x = with(10, 0, 100, 0, 0, 105, 0, 0, 50);
    x.set(0, 2, 100);
    x.set(0, 3, 0);
    x.set(1, 2, 95);
    due("the other would stay below", x.stills(1), -29);
    due("told(1, 2)", x.told(1, 2), 95);
    x.set(1, 2, 105);
    due("it rests", x.stills(1), 0);
    x.set(1, 2, 101);
    x.set(1, 1, 90);
    due("the other would stay above", x.stills(1), 29);
    due("its own doesn't count", x.stills(2), 0);
    due("the others' don't change", x.stills(0), 0);
    x.set(1, 4, 0);
    due("off", x.stills(1), 0);
    for (int who : new int[] {-1, 3, MIN, MAX}) due("shower " + who, x.stills(who), -100000);
  }

  private static void leave() {
    promise = "24 leave";
    TooHotTooCold x = with(0, 1, 62, 0, 0, 65, 0, 4, 999);
    due("leave(0, 0)", x.leave(0, 0), 60);
    due("leave(0, 1)", x.leave(0, 1), 30 * 4);
    due("of like ones the least", x.leave(1, 0), 60);
    due("of like ones the least", x.leave(1, 1), 30 * 25);
    due("the last", x.leave(2, 0), 990);
    due("the last", x.leave(2, 1), 30 * 81);
    due("told(0, 2)", x.told(0, 2), 0);
    x.set(0, 1, 4);
    due("the first", x.leave(0, 0), 0);
    due("the first", x.leave(0, 1), 30 * 16);
    x.set(0, 4, 0);
    due("off", x.leave(0, 0), 0);
    due("off", x.leave(0, 1), 0);
    for (int who : new int[] {-1, 3, MIN, MAX}) due("shower " + who, x.leave(who, 9), -5);
    for (int what : new int[] {-1, 2, MIN, MAX}) due("what " + what, x.leave(0, what), -7);
  }

  // ---- 25 to 32

  private static void judge() {
    promise = "25 judge";
    sheetRefusals(0);
    TooHotTooCold x = with(0, 0, 100, 0, 0, 90);
    row(x, 0, 0);
    due("nothing told", x.judge(0, 0), -1);
    row(x, 0, 0, 0, 99, 100, 100);
    due("as it is", x.judge(0, 0), -1);
    due("as it isn't", x.judge(0, 1), 1);
    row(x, 1, 1, 0, 99, 100, 101, 7);
    due("otherwise in beat 3", x.judge(1, 0), 3);
    row(x, 2, 2, 1);
    due("otherwise in beat 0", x.judge(2, 0), 0);
    x.film(3, 0, 30);
    due("all thirty", x.judge(3, 0), -1);
    x.cell(3, 29, 101);
    due("but the last", x.judge(3, 0), 29);
    x = with(0, 0, 200);
    x.set(0, 2, 200);
    row(x, 0, 0, 200);
    due("200 is no byte", x.judge(0, 0), 0);
    row(x, 0, 1, 200 + 65536);
    due("200 is a short", x.judge(0, 0), -1);
    row(x, 0, 2, 200 + 65536);
    due("an int is all of it", x.judge(0, 0), 0);
    x.set(0, 2, 100);
    x.set(0, 1, 100);
    row(x, 0, 0, 100 + 256);
    due("a byte is its lowest 8 bits", x.judge(0, 0), -1);
  }

  private static void whose() {
    promise = "26 whose";
    sheetRefusals(5);
    TooHotTooCold x = with(0, 0, 100, 0, 0, 90, 10, 0, 200, 50, 0, 1);
    row(x, 0, 0);
    due("nothing told", x.whose(0), 15);
    row(x, 0, 0, 0);
    due("0 in beat 0", x.whose(0), 15);
    row(x, 0, 0, 0, 99);
    due("99 in beat 1", x.whose(0), 1 + 4);
    row(x, 0, 0, 0, 99, 100);
    due("100 in beat 2", x.whose(0), 1);
    row(x, 0, 0, 0, 0, 0, 0);
    due("cold", x.whose(0), 8);
    x.set(0, 4, 0);
    row(x, 0, 0, 0, 0, 0, 0);
    due("cold, and off", x.whose(0), 9);
    row(x, 0, 0, 5);
    due("nobody's", x.whose(0), 0);
    x = new TooHotTooCold();
    row(x, 0, 0);
    due("none there", x.whose(0), 0);
  }

  private static void fits() {
    promise = "27 fits";
    sheetRefusals(1);
    TooHotTooCold x = with(0, 0, 10, 0, 2, 40);
    row(x, 0, 0);
    due("any lateness", x.fits(0, 1, 0), 31);
    due("any haste", x.fits(0, 1, 1), (1 << 17) - 1);
    row(x, 0, 0, 0, 0);
    due("late at all", x.fits(0, 1, 0), 30);
    row(x, 0, 0, 0, 0, 0);
    due("late by 2 or more", x.fits(0, 1, 0), 28);
    row(x, 0, 0, 0, 0, 0, 0, 0);
    due("late by 4", x.fits(0, 1, 0), 16);
    row(x, 0, 0, 0, 40);
    due("not late", x.fits(0, 1, 0), 1);
    due("late by 2, no haste tells so", x.fits(0, 1, 1), 0);
    row(x, 0, 0, 0, 0, 0, 40);
    due("haste 8", x.fits(0, 1, 1), 1 << 8);
    row(x, 0, 0, 0, 0, 0, 80);
    due("haste 16", x.fits(0, 1, 1), 1 << 16);
    row(x, 0, 0, 0, 0, 0, 0, 0);
    due("haste 0", x.fits(0, 1, 1), 1);
    due("told(1, 0)", x.told(1, 0), 2);
    due("told(1, 3)", x.told(1, 3), 8);
  }

  private static void kinds() {
    promise = "28 kinds";
    sheetRefusals(2);
    TooHotTooCold x = with(2, 0, 100, 0, 0, 500);
    x.set(1, 2, 500);
    row(x, 0, 0);
    due("any kind", x.kinds(0, 0, 0), 63);
    due("any more", x.kinds(0, 0, 1), 1023);
    x.set(0, 2, 91);
    row(x, 0, 0, 86);
    due("less by the other", x.kinds(0, 0, 0), 2 + 8);
    row(x, 0, 0, 91);
    due("not less", x.kinds(0, 0, 0), 1 + 4 + 16 + 32);
    row(x, 0, 0, 91, 100);
    due("turned", x.kinds(0, 0, 0), 1 + 4 + 16);
    row(x, 0, 0, 91, 91);
    due("never turned", x.kinds(0, 0, 0), 32);
    row(x, 0, 0, 86, 99, 102 - 7 + 1, 49);
    due("halved", x.kinds(0, 0, 0), 0);
    x.set(0, 2, 90);
    row(x, 0, 0, 90, 100);
    due("not notched", x.kinds(0, 0, 0), 1);
    row(x, 0, 0, 90, 99);
    due("notched", x.kinds(0, 0, 0), 4 + 16);
    x.set(0, 2, 95);
    row(x, 0, 0, 95, 95);
    due("it sticks", x.kinds(0, 0, 0), 16 + 32);
    due("told(0, 5)", x.told(0, 5), 0);
    x = with(24, 0, 100);
    x.set(0, 2, 90);
    row(x, 0, 0, 90, 100);
    due("notches of 1, 2, 5, 10", x.kinds(0, 0, 1), 1 + 2 + 16 + 512);
    row(x, 0, 0, 90, 96);
    due("a notch of 6", x.kinds(0, 0, 1), 32);
    row(x, 0, 0, 90, 99);
    due("notches of 3, 9", x.kinds(0, 0, 1), 4 + 256);
    due("told(0, 6)", x.told(0, 6), 4);
  }

  private static void laws() {
    promise = "29 laws";
    sheetRefusals(3);
    TooHotTooCold x = with(0, 0, 50);
    text(x, "turns 5" + REST);
    text(x, "turns 50" + REST);
    text(x, "turns beat+5" + REST);
    row(x, 0, 0);
    due("any", x.laws(0, 0), 15);
    row(x, 0, 0, 0, 50);
    due("50 in beat 1", x.laws(0, 0), 5);
    row(x, 0, 0, 0, 50, 50);
    due("50 in beat 2", x.laws(0, 0), 1);
    row(x, 0, 0, 0, 5);
    due("5 in beat 1", x.laws(0, 0), 10);
    row(x, 0, 0, 0, 5, 11);
    due("11 in beat 2", x.laws(0, 0), 8);
    row(x, 0, 0, 1);
    due("none", x.laws(0, 0), 0);
    due("count(3)", x.count(3), 0);
    text(x, "turns 1" + REST);
    text(x, "turns 1" + REST);
    row(x, 0, 0, 0, 1);
    due("the last two", x.laws(0, 0), 16 + 32);
  }

  private static void film() {
    promise = "30 film";
    TooHotTooCold x = with(0, 0, 100, 0, 1, 300);
    due("film(2, 0, 4)", x.film(2, 0, 4), 4);
    due("judge(2, 0)", x.judge(2, 0), -1);
    due("cell(2, 4, 0)", x.cell(2, 4, 0), -12);
    due("cell(2, 3, 0)", x.cell(2, 3, 0), 1);
    due("judge(2, 0)", x.judge(2, 0), 3);
    due("ints", x.showersBy(2, 2, 0, 0), 0);
    x.sheet(1, 0, 40);
    due("film(1, 1, 30)", x.film(1, 1, 30), 30);
    due("judge(1, 1)", x.judge(1, 1), -1);
    due("judge(1, 0)", x.judge(1, 0), 1);
    due("cell(1, 30, 0)", x.cell(1, 30, 0), -12);
    due("film(1, 1, 0)", x.film(1, 1, 0), 0);
    due("cell(1, 0, 0)", x.cell(1, 0, 0), -12);
    for (int s : new int[] {-1, 4, MIN, MAX}) due("sheet " + s, x.film(s, 9, 99), -2);
    for (int who : new int[] {-1, 2, MIN, MAX}) due("shower " + who, x.film(0, who, 99), -5);
    for (int n : new int[] {-1, 31, MIN, MAX}) due("n " + n, x.film(0, 0, n), -7);
    due("still missing", x.cell(0, 0, 0), -11);
  }

  private static void criers() {
    promise = "31 criers";
    sheetRefusals(6);
    TooHotTooCold x = under("turns 0;costs 0;yells beat=late or beat=29;");
    for (int late = 0; late < 4; late++) x.shower(0, late, 0);
    row(x, 0, 0);
    due("no beats", x.criers(0), 15);
    row(x, 0, 0, 2);
    due("beat 2", x.criers(0), 4);
    row(x, 0, 0, 29);
    due("beat 29", x.criers(0), 15);
    row(x, 0, 0, 29, 1, 29, 1);
    due("beats 29 and 1", x.criers(0), 2);
    row(x, 0, 0, 2, 1);
    due("beats 2 and 1", x.criers(0), 0);
    row(x, 0, 0, 0);
    due("beat 0", x.criers(0), 1);
    for (int no : new int[] {-1, 30, 32, 64, MIN, MAX}) {
      row(x, 0, 2, 29, no);
      due("no beat " + no, x.criers(0), 0);
    }
    x.set(1, 4, 0);
    row(x, 0, 0, 29);
    due("one is off", x.criers(0), 13);
    row(x, 0, 0);
    due("no beats", x.criers(0), 15);
  }

  private static void heard() {
    promise = "32 heard";
    sheetRefusals(4);
    TooHotTooCold x = under("turns 0;costs 0;yells beat=late*2 or beat=29 and late=3;");
    x.shower(0, 0, 0);
    x.shower(0, 4, 0);
    row(x, 0, 0, 4);
    due("4", x.heard(0, 0), 4);
    due("4", x.heard(0, 1), 4);
    row(x, 0, 0, 4, 4, -1, 30, 33, 100);
    due("others do not matter", x.heard(0, 0), 4);
    row(x, 0, 2, 36, MIN, 4, MAX);
    due("others do not matter", x.heard(0, 0), 4);
    row(x, 0, 0, 6);
    due("6, but not 29", x.heard(0, 0), 0);
    row(x, 0, 0, 29, 6);
    due("29 and 6", x.heard(0, 0), 8);
    row(x, 0, 0, 0);
    due("0", x.heard(0, 0), 1);
    row(x, 0, 0, 8);
    due("8", x.heard(0, 0), 16);
    row(x, 0, 0);
    due("never", x.heard(0, 0), 0);
    due("told(1, 0)", x.told(1, 0), 4);
    x.set(0, 4, 0);
    due("off, never", x.heard(0, 0), 31);
    row(x, 0, 0, 4);
    due("off, 4", x.heard(0, 0), 0);
  }

  // ---- 33 to 36

  private static void drawn() {
    promise = "33 drawn";
    TooHotTooCold x = with(50, 0, 271);
    due("a lot of 271", x.drawn(0, 0), 0);
    due("seed 1: 96542", x.drawn(1, 0), 2970);
    x.set(0, 1, 542);
    due("seed 1: 96542", x.drawn(1, 0), 0);
    due("seed 0", x.drawn(0, 0), 2970);
    due("too cold, nobody cries", x.drawn(0, 1), 0);
    x = with(50, 0, 0, 50, 0, 0);
    int second = (int) (48271L * 48271L % 2147483647L % 1000L);
    x.set(1, 1, second);
    due("the second lot", x.drawn(0, 0), 2970);
    due("the second lot", x.drawn(0, 1), 1);
    x.set(0, 4, 0);
    due("lots by number, also of one that is off", x.drawn(0, 0), 0);
    due("lots by number, also of one that is off", x.drawn(0, 1), 0);
    due("told(1, 2)", x.told(1, 2), 0);
    x = with(50, 0, (int) (100000L * 48271L % 2147483647L % 1000L));
    due("seed 99999", x.drawn(99999, 0), 0);
    due("nobody", new TooHotTooCold().drawn(5, 0), 0);
    for (int seed : new int[] {-1, 100000, MIN, MAX}) due("seed " + seed, x.drawn(seed, 0), -2);
    for (int what : new int[] {-1, 2, MIN, MAX}) due("what " + what, x.drawn(0, what), -2);
  }

  private static void odds(TooHotTooCold x, int seed, int seeds, int near, int above, int below) {
    due("odds(" + seed + ", " + seeds + ", " + near + ", 0)", x.odds(seed, seeds, near, 0), above);
    due("odds(" + seed + ", " + seeds + ", " + near + ", 1)", x.odds(seed, seeds, near, 1), below);
  }

  private static void odds() {
    promise = "34 odds";
    // never turned: the lots of seeds 0, 1, 2, .. are 271, 542, 813, 84, 355, 626, ..
    TooHotTooCold x = with(50, 0, 542);
    odds(x, 0, 3, 0, 1, 3);
    odds(x, 0, 3, 270, 1, 3);
    odds(x, 0, 3, 271, 1, 1);
    odds(x, 0, 4, 271, 3, 4);
    odds(x, 0, 6, 187, 1, 2);
    odds(x, 2, 2, 0, 0, 1);
    odds(x, 1, 1, 0, 1, 1);
    due("told(0, 2)", x.told(0, 2), 0);
    x.set(0, 4, 0);
    odds(x, 0, 3, 0, 1, 1);
    x.set(0, 4, 1);
    x.shower(50, 0, 0);
    odds(x, 0, 3, 0, 0, 1);
    x.set(1, 4, 0);
    odds(x, 0, 3, 0, 1, 3);
    odds(new TooHotTooCold(), 7, 12, 0, 1, 1);
    x = with(50, 0, (int) (100029L * 48271L % 2147483647L % 1000L));
    odds(x, 99999, 30, 0, 1, 30);
    for (int seed : new int[] {-1, 100000, MIN, MAX}) due("seed " + seed, x.odds(seed, 1, 0, 0), TooHotTooCold.NO);
    for (int n : new int[] {0, 31, -1, MIN, MAX}) due("seeds " + n, x.odds(0, n, 0, 0), TooHotTooCold.NO);
    for (int near : new int[] {-1, 1000, MIN, MAX}) due("near " + near, x.odds(0, 1, near, 0), TooHotTooCold.NO);
    for (int part : new int[] {-1, 2, MIN, MAX}) due("part " + part, x.odds(0, 1, 0, part), TooHotTooCold.NO);
  }

  private static void image() {
    promise = "35 image";
    TooHotTooCold x = new TooHotTooCold();
    due("image()", x.image(), 0);
    x.shower(0, 0, 0);
    x.shower(0, 0, 0);
    due("image()", x.image(), 2);
    x.set(0, 1, 9);
    due("image()", x.image(), 2);
    x.set(0, 1, 8);
    due("back()", x.back(), 2);
    due("the last image counts", x.told(0, 1), 9);
  }

  private static void back() {
    promise = "36 back";
    TooHotTooCold x = with(24, 1, 100, 35, 2, 200);
    due("back()", x.back(), -3);
    x.set(0, 4, 0);
    x.set(1, 2, 33);
    x.set(1, 3, 3);
    text(x, "turns 1" + REST);
    x.force(1);
    long before = allTold(x);
    x.image();
    x.shower(0, 0, 5);
    for (int who = 0; who < 2; who++) {
      for (int what = 0; what < 5; what++) x.set(who, what, what == 4 ? who == 0 ? 1 : 0 : 4);
    }
    x.set(2, 2, 44);
    x.set(2, 3, 2);
    x.set(2, 4, 0);
    x.set(2, 4, 1);
    x.force(0);
    x.pass(2);
    due("a third one's cost", x.day(2, 0) > 0 ? 1 : 0, 1);
    x.house(0);
    due("back()", x.back(), 2);
    due("all is as it was", allTold(x), before);
    due("it costs nothing now", x.house(0), 30);
    due("count(1)", x.count(1), 2);
    due("none came", x.told(2, 0), -5);
    due("taken(2, 0)", x.taken(2, 0), -11);
    due("the next is new", x.shower(13, 4, 6), 2);
    int[] want = {4, 6, 0, 8, 1, 1, 3, 50};
    for (int what = 0; what < 8; what++) due("told(2, " + what + ")", x.told(2, what), want[what]);
    x.set(0, 1, 1);
    due("back() again", x.back(), 2);
    due("told(0, 1)", x.told(0, 1), 100);
    x.sheet(0, 2, 3);
    text(x, "turns 2" + REST);
    tape(x, "ab");
    due("back()", x.back(), 2);
    due("texts stay", x.count(2), 3);
    due("the tape stays", x.count(4), 2);
    due("sheets stay", x.cell(0, 2, 1), 1);
    due("the image wasn't turned", x.told(1, 2), 33);
    x = under("turns 0;costs 1;yells late=beat;");
    x.shower(0, 0, 0);
    x.image();
    x.shower(0, 3, 0);
    x.shower(0, 3, 0);
    due("three cry", x.house(1), 7);
    due("two cry", x.house(2), 3);
    due("back()", x.back(), 1);
    due("one cries", x.house(1), 1);
    due("one cries", x.house(2), 0);
    row(x, 0, 0, 3);
    due("none cries", x.criers(0), 0);
  }

  // ---- 37 to 41

  private static void sheet() {
    promise = "37 sheet";
    TooHotTooCold x = with(0, 0, 0);
    for (int s : new int[] {-1, 4, MIN, MAX}) due("sheet " + s, x.sheet(s, 0, 1), -2);
    for (int sort : new int[] {-2, 3, MIN, MAX}) due("sort " + sort, x.sheet(0, sort, 1), -2);
    for (int n : new int[] {41, MAX}) due("n " + n, x.sheet(0, 0, n), -2);
    for (int n : new int[] {-1, MIN}) due("n " + n, x.sheet(0, 0, n), -14);
    due("sort ahead of n", x.sheet(0, 3, -1), -2);
    due("still missing", x.cell(0, 0, 0), -11);
    for (int s = 0; s < 4; s++) {
      due("sheet(" + s + ", 1, 40)", x.sheet(s, 1, 40), 1);
      due("the last cell", x.cell(s, 39, 7), 1);
      due("no cell", x.cell(s, 40, 7), -12);
    }
    due("sheet(0, 2, 3)", x.sheet(0, 2, 3), 1);
    due("all 0", x.judge(0, 0), -1);
    x.cell(0, 1, 5);
    due("not all 0", x.judge(0, 0), 1);
    due("sheet(0, 0, 2)", x.sheet(0, 0, 2), 1);
    due("all 0", x.judge(0, 0), -1);
    due("sheet(0, 0, 0)", x.sheet(0, 0, 0), 1);
    due("no cell", x.cell(0, 0, 0), -12);
    x.cell(1, 0, 5);
    due("a refusal changes nothing", x.sheet(1, 0, 41), -2);
    due("the last cell", x.cell(1, 39, 7), 1);
    for (int n : new int[] {0, -1, 41, MIN, MAX}) {
      x.sheet(1, 0, 1);
      due("missing, n " + n, x.sheet(1, -1, n), 1);
      due("missing", x.cell(1, 0, 0), -11);
    }
    due("missing already", x.sheet(1, -1, 0), 1);
  }

  private static void cell() {
    promise = "38 cell";
    TooHotTooCold x = with(50, 0, 0);
    for (int s : new int[] {-1, 4, MIN, MAX}) due("sheet " + s, x.cell(s, -1, 0), -2);
    due("missing", x.cell(2, -1, 0), -11);
    x.sheet(2, 0, 3);
    for (int i : new int[] {-1, 3, MIN, MAX}) due("cell " + i, x.cell(2, i, 0), -12);
    x.set(0, 2, 100);
    row(x, 2, 0, 100, 356, 100 - 256);
    due("bytes", x.judge(2, 0), -1);
    row(x, 2, 1, 100, 100 + 65536, 100 - 65536);
    due("shorts", x.judge(2, 0), -1);
    row(x, 2, 1, 100, 356);
    due("shorts", x.judge(2, 0), 1);
    row(x, 2, 2, 100, 100 + 65536);
    due("ints", x.judge(2, 0), 1);
    row(x, 2, 2, 100, 100, 5);
    due("ints", x.judge(2, 0), 2);
  }

  private static void copy() {
    promise = "39 copy";
    TooHotTooCold x = with(50, 0, 0);
    for (int s : new int[] {-1, 4, MIN, MAX}) {
      due("sheet " + s, x.copy(s, 0, 0, 0, -1), -2);
      due("sheet " + s, x.copy(0, 0, s, 0, -1), -2);
    }
    x.sheet(0, 2, 3);
    due("missing", x.copy(0, 9, 1, 0, -1), -11);
    due("missing", x.copy(1, 9, 0, 0, -1), -11);
    x.sheet(1, 1, 5);
    due("unlike sorts", x.copy(0, 9, 1, 0, -1), -13);
    x.sheet(1, 2, 5);
    for (int[] c : new int[][] {{0, 0, -1}, {0, 0, 4}, {1, 0, 3}, {3, 0, 1}, {4, 0, 0}, {-1, 0, 1}, {0, -1, 1}, {0, 5, 1},
        {0, 3, 3}, {0, 6, 0}, {-1, 0, 0}, {0, -1, 0}, {MAX, 0, 1}, {0, MAX, 1}, {1, 1, MAX}, {MIN, 0, 1}, {0, MIN, 1}, {0, 0, MIN}}) {
      due("outside " + c[0] + ", " + c[1] + ", " + c[2], x.copy(0, c[0], 1, c[1], c[2]), -12);
    }
    due("none, at the end", x.copy(0, 3, 1, 5, 0), 0);
    due("all to the end", x.copy(0, 0, 1, 2, 3), 3);
    // what a sheet holds is told by the showers that come of it
    row(x, 0, 2, 1, 2, 3, 4, 5, 6);
    row(x, 1, 2, 0, 0, 0, 0, 0, 0, 0);
    due("copy", x.copy(0, 1, 1, 2, 3), 3);
    x.showersBy(1, 2, 2, 1);
    due("2", 10 * x.told(1, 5) + x.told(1, 6), 2);
    due("3", x.told(1, 0), 3);
    due("4", x.told(1, 1), 4);
    due("ahead", x.showersBy(1, 2, 0, 1), 1);
    due("0", x.told(2, 0), 0);
    x = new TooHotTooCold();
    row(x, 0, 1, 1, 2, 3, 4, 5, 6, 7);
    due("to its own, behind", x.copy(0, 0, 0, 1, 4), 4);
    x.showersBy(0, 1, 2, 1);
    due("2 stands at 2", x.told(0, 6), 2);
    due("3 stands at 3", x.told(0, 0), 3);
    due("4 stands at 4", x.told(0, 1), 4);
    row(x, 0, 1, 9, 8, 7, 4, 3, 2, 1);
    due("to its own, ahead", x.copy(0, 2, 0, 1, 4), 4);
    x.showersBy(0, 1, 1, 1);
    due("7 stands at 1", x.told(1, 6), 7);
    due("4 stands at 2", x.told(1, 0), 4);
    due("3 stands at 3", x.told(1, 1), 3);
    x.showersBy(0, 1, 4, 1);
    due("2 stands at 4", x.told(2, 6), 2);
    due("2 stands at 5", x.told(2, 0), 2);
  }

  private static void showersBy() {
    promise = "40 showersBy";
    TooHotTooCold x = new TooHotTooCold();
    for (int s : new int[] {-1, 4, MIN, MAX}) due("sheet " + s, x.showersBy(s, 0, 0, 1), -2);
    for (int sort : new int[] {-1, 3, MIN, MAX}) due("sort " + sort, x.showersBy(0, sort, 0, 1), -2);
    for (int n : new int[] {-1, 5, MIN, MAX}) due("n " + n, x.showersBy(0, 0, 0, n), -2);
    due("missing", x.showersBy(0, 0, -1, 1), -11);
    row(x, 0, 1, 7, 31, 2, 450, 60, 0, 0, 12, 3, 999, 59);
    due("another sort", x.showersBy(0, 0, -1, 1), -13);
    due("another sort", x.showersBy(0, 2, -1, 1), -13);
    for (int at : new int[] {-1, -3, 9, 10, 11, 12, MIN, MAX}) due("at " + at, x.showersBy(0, 1, at, 4), -12);
    due("count(0)", x.count(0), 0);
    due("none", x.showersBy(0, 1, 1, 0), 0);
    due("three, but one is BAD", x.showersBy(0, 1, 1, 3), 2);
    int[][] want = {{2, 450, 0, 8, 1, 3, 1, 60}, {3, 999, 0, 8, 1, 1, 2, 50}};
    for (int who = 0; who < 2; who++) {
      for (int what = 0; what < 8; what++) due("told(" + who + ", " + what + ")", x.told(who, what), want[who][what]);
    }
    due("what stood ahead came", x.showersBy(0, 1, 7, 2), -12);
    due("count(0)", x.count(0), 3);
    due("the sheet's end", x.showersBy(0, 1, 8, 1), 0);
    due("one has room", x.showersBy(0, 1, 1, 3), 1);
    due("none has room", x.showersBy(0, 1, 1, 3), 0);
    due("outside, though none has room", x.showersBy(0, 1, 1, 4), -12);
    due("count(0)", x.count(0), 4);
    x = new TooHotTooCold();
    row(x, 3, 0, 1, 1, 100, 2, 2, 101, 3, 3, 102, 4, 4, 103);
    due("four", x.showersBy(3, 0, 0, 4), 4);
    due("told(3, 1)", x.told(3, 1), 103);
  }

  private static void taken() {
    promise = "41 taken";
    boolean[][] is = {
      {true, false, false, false, false, false}, {true, true, false, false, false, false}, {true, false, true, false, false, false},
      {true, true, false, true, false, false}, {true, false, true, false, true, false}, {true, false, false, false, false, true},
    };
    for (int kind = 0; kind < 6; kind++) {
      TooHotTooCold x = with(0, 0, 0, 10 * kind + 3, 0, 0);
      x.set(1, 2, 456);
      for (int as = 0; as < 6; as++) {
        due("kind " + kind + " taken for " + as, x.taken(1, as), is[kind][as] ? 1 : -13);
        due("a set taken for " + as, x.taken(5, as), -13);
      }
      due("a shower taken for a set", x.taken(1, 6), -13);
      due("a set", x.taken(5, 6), 456);
      due("the first's", x.taken(4, 6), 0);
      x.set(1, 4, 0);
      due("off, the shower", x.taken(1, kind), 1);
      due("off, the set", x.taken(5, 6), -11);
      due("off, the set taken for a shower", x.taken(5, 0), -11);
      for (int i : new int[] {2, 3, 6, 7}) {
        for (int as = 0; as < 7; as++) due("nothing at " + i, x.taken(i, as), -11);
      }
      for (int i : new int[] {-1, 8, MIN, MAX}) due("place " + i, x.taken(i, 0), -12);
      for (int as : new int[] {-1, 7, MIN, MAX}) due("kind " + as, x.taken(99, as), -2);
    }
    TooHotTooCold x = with(0, 0, 0, 0, 0, 0, 0, 0, 0, 40, 0, 0);
    x.set(3, 2, 999);
    due("taken(3, 2)", x.taken(3, 2), 3);
    due("taken(7, 6)", x.taken(7, 6), 999);
  }
}
