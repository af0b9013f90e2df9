import java.util.ArrayList;
import java.util.Arrays;
import java.util.List;

/**
 * What is refused and what is asked changes nothing, what changes, changes just what is told. Two objects are made alike, one
 * call more is made on the second one, and both are looked at from all sides, each time anew, as some looks change what they see.
 */
public final class UnchangedTest {
  private static final int MIN = Integer.MIN_VALUE, MAX = Integer.MAX_VALUE;
  private static final int EMPTY = 0, SOME = 1, FULL_HOUSE = 2, HOUSES = 3;
  private static final String[] HOUSE_NAMES = {"an empty house", "some showers", "a full house"};
  private static final String SHOWERS = "showers", THE_LAW = "law", TEXTS = "texts", TAPE = "tape", IMAGE = "image",
      MORNINGS = "mornings", SHEET = "sheet ";
  private static final String[] VIEWS = {SHOWERS, THE_LAW, TEXTS, TAPE, IMAGE, MORNINGS, SHEET + 0, SHEET + 1, SHEET + 2, SHEET + 3};
  private static int wrong = 0;

  private interface Call {
    long on(TooHotTooCold x);
  }

  /** A call of a promise; what it answers, if that is told; the views that it may change. */
  private static final class Made {
    final String name;
    final Call call;
    final Long want;
    final List<String> changed;

    Made(String name, Call call, Long want, String... changed) {
      this.name = name;
      this.call = call;
      this.want = want;
      this.changed = Arrays.asList(changed);
    }
  }

  public static void main(String[] args) {
    for (int house = 0; house < HOUSES; house++) {
      String[] before = new String[VIEWS.length];
      for (int v = 0; v < VIEWS.length; v++) before[v] = seen(make(house), house, VIEWS[v]);
      List<Made> calls = new ArrayList<>();
      asked(calls, house);
      refused(calls);
      refusedHere(calls, house);
      changing(calls, house);
      for (Made made : calls) {
        for (int v = 0; v < VIEWS.length; v++) compare(house, made, VIEWS[v], before[v]);
      }
    }
    System.out.println(wrong == 0 ? "nothing changes but what is told" : wrong + " things changed");
    if (wrong != 0) System.exit(1);
  }

  private static void compare(int house, Made made, String view, String before) {
    TooHotTooCold x = make(house);
    long got = made.call.on(x);
    if (made.want != null && got != made.want) {
      wrong++;
      System.out.println(made.name + " in " + HOUSE_NAMES[house] + " answered " + got + ", due is " + made.want);
    }
    boolean alike = before.equals(seen(x, house, view));
    if (made.changed.contains(view) || alike) return;
    wrong++;
    System.out.println(made.name + " in " + HOUSE_NAMES[house] + " changed: " + view);
  }

  // ---- the houses

  private static TooHotTooCold make(int house) {
    TooHotTooCold x = new TooHotTooCold();
    if (house == SOME) some(x);
    if (house == FULL_HOUSE) full(x);
    return x;
  }

  private static void some(TooHotTooCold x) {
    x.shower(0, 1, 60);
    x.set(0, 2, 45);
    x.image();
    text(x, "turns cold+beat-set;costs late+more;yells was<7;");
    text(x, "turns 0-cold;costs 2;yells beat;");
    x.force(1);
    x.shower(33, 2, 90);
    x.set(0, 0, 2);
    x.set(0, 3, 5);
    x.set(1, 4, 0);
    x.pass(3);
    text(x, "turns 3;costs");
    tape(x, "turns 5;costs late;yells");
    row(x, 0, 0, cells(SOME, 0));
    row(x, 1, 1, cells(SOME, 1));
    row(x, 2, 2, cells(SOME, 2));
  }

  private static void full(TooHotTooCold x) {
    x.shower(0, 0, 100);
    x.shower(12, 1, 300);
    x.set(1, 2, 310);
    x.image();
    x.shower(21, 2, 60);
    x.shower(31, 3, 500);
    for (int t = 1; t < 6; t++) text(x, "turns cold+" + t + ";costs " + t + ";yells cold<" + t + ";");
    x.force(2);
    x.set(3, 2, 480);
    x.set(3, 3, 9);
    x.set(0, 1, 120);
    for (int i = 0; i < 32; i++) x.feed(5, 't', 'u', 'r', 'n', ' ');
    for (int s = 0; s < 4; s++) row(x, s, s % 3, cells(FULL_HOUSE, s));
  }

  /** What a sheet of a house holds; null, if it is missing. */
  private static int[] cells(int house, int s) {
    if (house == EMPTY || house == SOME && s == 3) return null;
    int[] sizes = house == SOME ? new int[] {0, 5, 31} : new int[] {40, 30, 12, 3};
    int[] row = new int[sizes[s]];
    for (int i = 0; i < row.length; i++) row[i] = (i * 37 + s * 11 + 1) % (s % 3 == 0 ? 60 : 700);
    return row;
  }

  private static void tape(TooHotTooCold x, String bytes) {
    for (int i = 0; i < bytes.length(); i++) x.feed(1, bytes.charAt(i), 0, 0, 0, 0);
  }

  private static void text(TooHotTooCold x, String bytes) {
    tape(x, bytes);
    x.text();
  }

  private static void row(TooHotTooCold x, int s, int sort, int... numbers) {
    x.sheet(s, sort, numbers.length);
    for (int i = 0; i < numbers.length; i++) x.cell(s, i, numbers[i]);
  }

  // ---- the views

  private static String seen(TooHotTooCold x, int house, String view) {
    StringBuilder b = new StringBuilder();
    switch (view) {
      case SHOWERS: showers(x, b); break;
      case THE_LAW: add(b, x.count(3)); break;
      case TEXTS: texts(x, b); break;
      case TAPE: tape(x, b); break;
      case IMAGE: image(x, b); break;
      case MORNINGS: mornings(x, b); break;
      default: sheet(x, house, view.charAt(SHEET.length()) - '0', b); break;
    }
    return b.toString();
  }

  private static void add(StringBuilder b, long told) {
    b.append(told).append(' ');
  }

  private static void showers(TooHotTooCold x, StringBuilder b) {
    add(b, x.count(0));
    add(b, x.count(1));
    for (int who = 0; who < 4; who++) {
      for (int what = 0; what < 8; what++) add(b, x.told(who, what));
    }
    for (int i = 0; i < 8; i++) {
      for (int kind = 0; kind < 7; kind++) add(b, x.taken(i, kind));
    }
    add(b, x.shower(59, 4, 3));
    add(b, x.count(0));
  }

  private static void texts(TooHotTooCold x, StringBuilder b) {
    add(b, x.count(2));
    oneWhoHears(x);
    for (int t = 0; t < 6; t++) {
      x.force(t);
      add(b, x.count(3));
      for (int cold = -30; cold < 30; cold += 13) {
        for (int part = 0; part < 3; part++) add(b, x.asks(part, 2000 * (cold + 1000) + 3 * cold + 1000, 9, 7, 0));
      }
    }
  }

  private static void oneWhoHears(TooHotTooCold x) {
    if (x.count(0) == 0) x.shower(14, 3, 5);
    x.set(0, 0, 3);
  }

  /** What stands on the tape is made a text, also by what is fed behind it. */
  private static void tape(TooHotTooCold x, StringBuilder b) {
    add(b, x.count(4));
    oneWhoHears(x);
    tape(x, x.count(4) == 0 ? "turns 5;costs late;yells 77;" : " 77;");
    add(b, x.count(4));
    add(b, x.text());
    add(b, x.count(4));
    x.force(x.count(2) - 1);
    for (int part = 0; part < 3; part++) add(b, x.asks(part, 1234567, 9, 7, 0));
  }

  private static void image(TooHotTooCold x, StringBuilder b) {
    int back = x.back();
    add(b, back);
    if (back < 0) return;
    add(b, x.count(3));
    showers(x, b);
  }

  private static void mornings(TooHotTooCold x, StringBuilder b) {
    for (int who = 0; who < 4; who++) {
      for (int beat = 0; beat < 30; beat += 4) {
        add(b, x.at(who, beat, 0));
        add(b, x.at(who, beat, 1));
      }
      for (int what = 0; what < 4; what++) add(b, x.day(who, what));
      add(b, x.best(who, 1));
      add(b, x.soon(who, 20, 0));
      add(b, x.stills(who));
      add(b, x.hurts(0, who));
    }
    for (int what = 0; what < 3; what++) add(b, x.house(what));
    add(b, x.card(0));
    add(b, x.even(0, 1, 1));
    add(b, x.off(0));
    add(b, x.drawn(5, 0));
    add(b, x.odds(3, 4, 50, 0));
    add(b, x.pass(30));
    add(b, x.day(0, 0));
  }

  /** Its sort, its size, and each number beside what it was made: a shower feels that in beat 0, and a sheet of one tells it. */
  private static void sheet(TooHotTooCold x, int house, int s, StringBuilder b) {
    for (int sort = 0; sort < 3; sort++) add(b, x.showersBy(s, sort, 0, 0));
    for (int n = 0; n < 42; n++) add(b, x.copy(s, 0, s, 0, n));
    int[] cells = cells(house, s);
    if (cells == null) return;
    int sort = s % 3, other = (s + 1) % 4;
    x.set(0, 0, 0);
    for (int i = 0; i < cells.length; i++) {
      x.sheet(other, sort, 1);
      x.copy(s, i, other, 0, 1);
      x.set(0, 2, cells[i]);
      add(b, x.judge(other, 0));
    }
  }

  // ---- what is asked

  private static void ask(List<Made> calls, String name, Call call) {
    calls.add(new Made(name, call, null));
  }

  private static void asked(List<Made> calls, int house) {
    for (int w = 0; w < 5; w++) {
      int what = w;
      ask(calls, "2 count(" + what + ")", x -> x.count(what));
    }
    for (int w = 0; w < 4; w++) {
      int who = w;
      askedOf(calls, who);
      for (int o = 0; o < 4; o++) {
        int other = o;
        ask(calls, "20 even(" + who + ", " + other + ", 0)", x -> x.even(who, other, 0));
        ask(calls, "20 even(" + who + ", " + other + ", 1)", x -> x.even(who, other, 1));
        ask(calls, "21 hurts(" + who + ", " + other + ")", x -> x.hurts(who, other));
      }
      for (int s = 0; s < 4; s++) askedBySheet(calls, s, who);
    }
    for (int w = 0; w < 3; w++) {
      int what = w;
      ask(calls, "14 house(" + what + ")", x -> x.house(what));
      ask(calls, "19 card(" + what + ")", x -> x.card(what));
      ask(calls, "22 off(" + what + ")", x -> x.off(what));
      ask(calls, "33 drawn(7, " + what + ")", x -> x.drawn(7, what));
      ask(calls, "34 odds(7, 3, 40, " + what + ")", x -> x.odds(7, 3, 40, what));
    }
    for (int s = 0; s < 4; s++) {
      int sheet = s;
      ask(calls, "26 whose(" + sheet + ")", x -> x.whose(sheet));
      ask(calls, "31 criers(" + sheet + ")", x -> x.criers(sheet));
    }
    for (int p = 0; p < 8; p++) {
      int i = p;
      ask(calls, "41 taken(" + i + ", 0)", x -> x.taken(i, 0));
      ask(calls, "41 taken(" + i + ", 6)", x -> x.taken(i, 6));
    }
  }

  private static void askedOf(List<Made> calls, int who) {
    ask(calls, "6 asks(0, ..)", x -> x.asks(0, 1234567, 8, 7, who));
    ask(calls, "6 asks(1, ..)", x -> x.asks(1, 1234567, 8, 7, who));
    ask(calls, "6 asks(2, ..)", x -> x.asks(2, 1234567, 8, 7, who));
    ask(calls, "9 told(" + who + ", 7)", x -> x.told(who, 7));
    ask(calls, "10 at(" + who + ", 29, 1)", x -> x.at(who, 29, 1));
    ask(calls, "11 day(" + who + ", 0)", x -> x.day(who, 0));
    ask(calls, "12 rests(" + who + ", 30)", x -> x.rests(who, 30));
    ask(calls, "13 sways(" + who + ")", x -> x.sways(who));
    ask(calls, "16 best(" + who + ", 0)", x -> x.best(who, 0));
    ask(calls, "16 best(" + who + ", 1)", x -> x.best(who, 1));
    ask(calls, "17 line(" + who + ", 30)", x -> x.line(who, 30));
    ask(calls, "18 soon(" + who + ", 30, 0)", x -> x.soon(who, 30, 0));
    ask(calls, "18 soon(" + who + ", 0, 1)", x -> x.soon(who, 0, 1));
    ask(calls, "23 stills(" + who + ")", x -> x.stills(who));
    ask(calls, "24 leave(" + who + ", 0)", x -> x.leave(who, 0));
    ask(calls, "24 leave(" + who + ", 1)", x -> x.leave(who, 1));
  }

  private static void askedBySheet(List<Made> calls, int s, int who) {
    String told = "(" + s + ", " + who;
    ask(calls, "25 judge" + told + ")", x -> x.judge(s, who));
    ask(calls, "27 fits" + told + ", 0)", x -> x.fits(s, who, 0));
    ask(calls, "27 fits" + told + ", 1)", x -> x.fits(s, who, 1));
    ask(calls, "28 kinds" + told + ", 0)", x -> x.kinds(s, who, 0));
    ask(calls, "28 kinds" + told + ", 1)", x -> x.kinds(s, who, 1));
    ask(calls, "29 laws" + told + ")", x -> x.laws(s, who));
    ask(calls, "32 heard" + told + ")", x -> x.heard(s, who));
  }

  // ---- what is refused in any house

  private static void no(List<Made> calls, long want, String name, Call call) {
    calls.add(new Made(name + ", refused", call, want));
  }

  private static void refused(List<Made> calls) {
    for (int v : new int[] {-1, MIN, MAX}) {
      no(calls, -2, "2 count", x -> x.count(v));
      no(calls, -2, "3 feed of n", x -> x.feed(v, 't', 0, 0, 0, 0));
      no(calls, -2, "3 feed of a", x -> x.feed(1, v, 't', 't', 't', 't'));
      no(calls, -2, "3 feed of e", x -> x.feed(1, 't', 't', 't', 't', v));
      no(calls, -2, "5 force", x -> x.force(v));
      no(calls, -1000, "6 asks of a shower", x -> x.asks(0, 0, 0, 0, v));
      no(calls, -2, "7 shower of a kind", x -> x.shower(v, 0, 0));
      no(calls, -2, "7 shower so late", x -> x.shower(0, v, 0));
      no(calls, -2, "7 shower so warm", x -> x.shower(0, 0, v));
      no(calls, -5, "8 set of a shower", x -> x.set(v, 1, 7));
      no(calls, -5, "9 told", x -> x.told(v, 0));
      no(calls, -100000, "10 at", x -> x.at(v, 0, 0));
      no(calls, -5, "11 day", x -> x.day(v, 0));
      no(calls, -5, "12 rests", x -> x.rests(v, 0));
      no(calls, -5, "13 sways", x -> x.sways(v));
      no(calls, -2, "14 house", x -> x.house(v));
      no(calls, -2, "15 pass", x -> x.pass(v));
      no(calls, -5, "16 best", x -> x.best(v, 0));
      no(calls, -5, "17 line", x -> x.line(v, 0));
      no(calls, -5, "18 soon", x -> x.soon(v, 0, 0));
      no(calls, -2, "19 card", x -> x.card(v));
      no(calls, -5, "20 even", x -> x.even(v, 0, 0));
      no(calls, -100000, "21 hurts", x -> x.hurts(0, v));
      no(calls, -2, "22 off", x -> x.off(v));
      no(calls, -100000, "23 stills", x -> x.stills(v));
      no(calls, -5, "24 leave", x -> x.leave(v, 0));
      no(calls, -2, "25 judge", x -> x.judge(v, 0));
      no(calls, -2, "26 whose", x -> x.whose(v));
      no(calls, -2, "27 fits", x -> x.fits(v, 0, 0));
      no(calls, -2, "28 kinds", x -> x.kinds(v, 0, 0));
      no(calls, -2, "29 laws", x -> x.laws(v, 0));
      no(calls, -2, "30 film of a sheet", x -> x.film(v, 0, 3));
      for (int s = 0; s < 4; s++) {
        int sheet = s;
        no(calls, -5, "30 film of a shower", x -> x.film(sheet, v, 3));
        no(calls, -2, "37 sheet of a sort", x -> x.sheet(sheet, v == -1 ? -2 : v, 3));
        no(calls, v == MAX ? -2 : -14, "37 sheet of a size", x -> x.sheet(sheet, 2, v));
        no(calls, -2, "40 showersBy of a sort", x -> x.showersBy(sheet, v, 0, 1));
        no(calls, -2, "40 showersBy of n", x -> x.showersBy(sheet, 0, 0, v));
      }
      no(calls, -2, "31 criers", x -> x.criers(v));
      no(calls, -2, "32 heard", x -> x.heard(v, 0));
      no(calls, -2, "33 drawn", x -> x.drawn(v, 0));
      no(calls, TooHotTooCold.NO, "34 odds", x -> x.odds(v, 1, 0, 0));
      no(calls, -2, "37 sheet", x -> x.sheet(v, 2, 3));
      no(calls, -2, "38 cell", x -> x.cell(v, 0, 7));
      no(calls, -2, "39 copy of a sheet", x -> x.copy(v, 0, 0, 0, 1));
      no(calls, -2, "39 copy to a sheet", x -> x.copy(0, 0, v, 0, 1));
      no(calls, -2, "40 showersBy", x -> x.showersBy(v, 0, 0, 1));
      no(calls, -2, "41 taken of a kind", x -> x.taken(0, v));
      no(calls, -12, "41 taken", x -> x.taken(v, 0));
    }
  }

  // ---- what is refused in some houses

  private static void refusedHere(List<Made> calls, int house) {
    if (house == EMPTY) {
      no(calls, -3, "36 back", x -> x.back());
      no(calls, -2, "5 force(1)", x -> x.force(1));
      for (int s = 0; s < 4; s++) {
        int sheet = s;
        no(calls, -11, "38 cell of a missing sheet", x -> x.cell(sheet, 0, 7));
        no(calls, -11, "39 copy of missing sheets", x -> x.copy(sheet, 0, 3 - sheet, 0, 0));
        no(calls, -11, "40 showersBy a missing sheet", x -> x.showersBy(sheet, 0, 0, 0));
        no(calls, -5, "30 film of no shower", x -> x.film(sheet, 0, 3));
      }
    }
    if (house != EMPTY) {
      for (int w = 0; w < 5; w++) {
        int what = w, most = new int[] {4, 999, 999, 16, 1}[w];
        for (int v : new int[] {-1, most + 1, MIN, MAX}) no(calls, -7, "8 set of " + what, x -> x.set(1, what, v));
      }
      for (int what : new int[] {-1, 5, MIN, MAX}) no(calls, -7, "8 set of " + what, x -> x.set(1, what, 0));
      for (int s = 0; s < 4; s++) {
        int sheet = s;
        for (int n : new int[] {-1, 31, MIN, MAX}) no(calls, -7, "30 film of n", x -> x.film(sheet, 0, n));
      }
      no(calls, -2, "15 pass(31)", x -> x.pass(31));
      notAsTold(calls);
      no(calls, -13, "39 copy to another sort", x -> x.copy(0, 0, 1, 0, 1));
      no(calls, -13, "39 copy to another sort", x -> x.copy(1, 0, 2, 0, 1));
      no(calls, -13, "40 showersBy another sort", x -> x.showersBy(1, 0, 0, 1));
    }
    if (house == SOME) {
      tooLong(calls, 2);
      no(calls, -11, "38 cell of a missing sheet", x -> x.cell(3, 0, 7));
      no(calls, -11, "39 copy to a missing sheet", x -> x.copy(2, 0, 3, 0, 1));
      no(calls, -11, "39 copy of a missing sheet", x -> x.copy(3, 0, 2, 0, 1));
      no(calls, -12, "38 cell of an empty sheet", x -> x.cell(0, 0, 7));
      for (int i : new int[] {-1, 31, MIN, MAX}) {
        no(calls, -12, "38 cell outside", x -> x.cell(2, i, 7));
        no(calls, -12, "39 copy from outside", x -> x.copy(2, i, 2, 0, 1));
        no(calls, -12, "39 copy to outside", x -> x.copy(2, 0, 2, i, 1));
        no(calls, -12, "40 showersBy outside", x -> x.showersBy(2, 2, i, 1));
      }
      for (int n : new int[] {-1, 32, 41, MIN, MAX}) no(calls, -12, "39 copy of n", x -> x.copy(2, 0, 2, 0, n));
      no(calls, -12, "39 copy beyond the end", x -> x.copy(2, 5, 2, 29, 3));
      no(calls, -12, "39 copy from beyond the end", x -> x.copy(2, 29, 2, 5, 3));
      no(calls, -2, "5 force(3)", x -> x.force(3));
    }
    if (house == FULL_HOUSE) {
      tooLong(calls, 0);
      no(calls, -4, "3 feed of 1", x -> x.feed(1, 't', 't', 't', 't', 't'));
      no(calls, -4, "3 feed of 5", x -> x.feed(5, 't', 't', 't', 't', 't'));
      no(calls, -4, "4 text", x -> x.text());
      no(calls, -4, "7 shower", x -> x.shower(0, 0, 0));
      no(calls, -2, "5 force(6)", x -> x.force(6));
      no(calls, 0, "40 showersBy, all left out", x -> x.showersBy(1, 1, 0, 4));
      no(calls, -12, "38 cell(0, 40, 7)", x -> x.cell(0, 40, 7));
    }
  }

  /** A shower is there, but another number is not as told. */
  private static void notAsTold(List<Made> calls) {
    for (int v : new int[] {-1, MIN, MAX}) {
      no(calls, -2000, "6 asks of a part", x -> x.asks(v, 0, 0, 0, 0));
      no(calls, -2000, "6 asks of coldWas", x -> x.asks(0, v, 0, 0, 0));
      no(calls, -2000, "6 asks of set", x -> x.asks(0, 0, v, 0, 0));
      no(calls, -2000, "6 asks of a beat", x -> x.asks(0, 0, 0, v, 0));
      no(calls, -7, "9 told of what", x -> x.told(0, v));
      no(calls, -200000, "10 at of a beat", x -> x.at(0, v, 0));
      no(calls, -200000, "10 at of what", x -> x.at(0, 0, v));
      no(calls, -7, "11 day of what", x -> x.day(0, v));
      no(calls, -7, "12 rests of near", x -> x.rests(0, v));
      no(calls, -7, "16 best of what", x -> x.best(0, v));
      no(calls, -7, "17 line of near", x -> x.line(0, v));
      no(calls, -7, "18 soon of near", x -> x.soon(0, v, 0));
      no(calls, -7, "18 soon of what", x -> x.soon(0, 0, v));
      no(calls, -5, "20 even of y", x -> x.even(0, v, 0));
      no(calls, -7, "20 even of what", x -> x.even(0, 1, v));
      no(calls, -100000, "21 hurts of x", x -> x.hurts(v, 0));
      no(calls, -7, "24 leave of what", x -> x.leave(0, v));
      no(calls, -5, "25 judge of a shower", x -> x.judge(1, v));
      no(calls, -5, "27 fits of a shower", x -> x.fits(1, v, 0));
      no(calls, -7, "27 fits of a sort", x -> x.fits(1, 0, v));
      no(calls, -5, "28 kinds of a shower", x -> x.kinds(1, v, 0));
      no(calls, -7, "28 kinds of a sort", x -> x.kinds(1, 0, v));
      no(calls, -5, "29 laws of a shower", x -> x.laws(1, v));
      no(calls, -5, "32 heard of a shower", x -> x.heard(1, v));
      no(calls, -2, "33 drawn of what", x -> x.drawn(0, v));
      no(calls, TooHotTooCold.NO, "34 odds of seeds", x -> x.odds(0, v, 0, 0));
      no(calls, TooHotTooCold.NO, "34 odds of near", x -> x.odds(0, 1, v, 0));
      no(calls, TooHotTooCold.NO, "34 odds of a part", x -> x.odds(0, 1, 0, v));
    }
    no(calls, -5, "20 even of one twice", x -> x.even(1, 1, 0));
    no(calls, -100000, "21 hurts of one twice", x -> x.hurts(1, 1));
    no(calls, -13, "41 taken of another kind", x -> x.taken(0, 5));
    no(calls, -13, "41 taken of a shower as a set", x -> x.taken(0, 6));
    no(calls, -13, "41 taken of a set as a shower", x -> x.taken(4, 0));
  }

  /** A sheet that tells of more than thirty. */
  private static void tooLong(List<Made> calls, int s) {
    no(calls, -2, "25 judge of too much", x -> x.judge(s, 0));
    no(calls, -2, "26 whose of too much", x -> x.whose(s));
    no(calls, -2, "27 fits of too much", x -> x.fits(s, 0, 0));
    no(calls, -2, "28 kinds of too much", x -> x.kinds(s, 0, 0));
    no(calls, -2, "29 laws of too much", x -> x.laws(s, 0));
    no(calls, -2, "31 criers of too much", x -> x.criers(s));
    no(calls, -2, "32 heard of too much", x -> x.heard(s, 0));
  }

  // ---- what truly changes

  private static void change(List<Made> calls, long want, String name, Call call, String... changed) {
    calls.add(new Made(name, call, want, changed));
  }

  private static void changing(List<Made> calls, int house) {
    if (house != FULL_HOUSE) {
      int behind = house == EMPTY ? 0 : "turns 5;costs late;yells".length();
      change(calls, behind + 2, "3 feed", x -> x.feed(2, ' ', ' ', 0, 0, 0), TAPE);
      change(calls, -100 - behind, "4 text of a fault", x -> x.text(), TAPE);
      change(calls, house == EMPTY ? 0 : 2, "7 shower", x -> x.shower(14, 2, 30), SHOWERS, MORNINGS);
    }
    if (house == SOME) {
      change(calls, 3, "4 text", x -> {
        tape(x, " 9;");
        return x.text();
      }, TAPE, TEXTS);
    }
    if (house == EMPTY) {
      change(calls, 0, "35 image", x -> x.image(), IMAGE);
      change(calls, 1, "37 sheet", x -> x.sheet(2, 2, 5), SHEET + 2);
      change(calls, 1, "37 sheet, missing anew", x -> x.sheet(2, -1, 5));
      change(calls, 0, "15 pass of an empty house", x -> x.pass(30));
    } else {
      changingThere(calls, house);
    }
  }

  private static void changingThere(List<Made> calls, int house) {
    int size = house == SOME ? 2 : 4, kept = house == SOME ? 1 : 2, law = house == SOME ? 1 : 2;
    change(calls, law, "5 force", x -> x.force(0), THE_LAW, MORNINGS);
    change(calls, law, "5 force of what it is", x -> x.force(law));
    for (int w = 0; w < 5; w++) {
      int what = w;
      change(calls, make(house).told(1, w), "8 set of " + what, x -> x.set(1, what, what == 4 ? 1 - x.told(1, 4) : 3), SHOWERS, MORNINGS);
      change(calls, make(house).told(1, w), "8 set as it is", x -> x.set(1, what, x.told(1, what)));
    }
    change(calls, 0, "15 pass(0)", x -> x.pass(0));
    change(calls, make(house).house(0), "15 pass(30)", x -> x.pass(30), SHOWERS, MORNINGS);
    change(calls, size, "35 image", x -> x.image(), IMAGE);
    change(calls, kept, "36 back", x -> x.back(), SHOWERS, THE_LAW, MORNINGS);
    for (int s = 0; s < 4; s++) {
      int sheet = s;
      change(calls, 7, "30 film", x -> x.film(sheet, 1, 7), SHEET + s);
      change(calls, 0, "30 film of none", x -> x.film(sheet, 1, 0), SHEET + s);
      change(calls, 1, "37 sheet", x -> x.sheet(sheet, 1, 5), SHEET + s);
      change(calls, 1, "37 sheet, missing", x -> x.sheet(sheet, -1, MIN), SHEET + s);
    }
    change(calls, 1, "38 cell", x -> x.cell(2, 3, 5), SHEET + 2);
    change(calls, 1, "38 cell as it is", x -> x.cell(2, 3, cells(house, 2)[3]));
    change(calls, 3, "39 copy", x -> x.copy(2, 0, 2, 1, 3), SHEET + 2);
    change(calls, 0, "39 copy of none", x -> x.copy(2, 0, 2, 1, 0));
    change(calls, 3, "39 copy to where they are", x -> x.copy(2, 4, 2, 4, 3));
    if (house == FULL_HOUSE) change(calls, 3, "39 copy to another one", x -> x.copy(0, 7, 3, 0, 3), SHEET + 3);
    if (house == SOME) {
      change(calls, 0, "40 showersBy of none", x -> x.showersBy(2, 2, 0, 0));
      change(calls, 1, "40 showersBy", x -> {
        x.sheet(3, 0, 3);
        return x.showersBy(3, 0, 0, 1);
      }, SHOWERS, MORNINGS, SHEET + 3);
      change(calls, -12, "40 showersBy beyond the end", x -> {
        x.sheet(3, 0, 5);
        return x.showersBy(3, 0, 0, 2);
      }, SHOWERS, MORNINGS, SHEET + 3);
    }
  }
}
