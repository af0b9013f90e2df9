import java.util.Arrays;

/** The Terms, sentence by sentence: showers, kinds, texts and their faults, beats, lots, the image, sheets, refusals, 512 calls. */
public final class TermsTest {
  private static final int MIN = Integer.MIN_VALUE, MAX = Integer.MAX_VALUE;
  private static final String REST = ";costs 1;yells 0;", STAYS = "turns 0" + REST;
  private static final int PLAIN = 0, SHARED = 10, NOTCHED = 20, BOILER = 30, STICKING = 40, OLD = 50;
  private static int wrong = 0;
  private static String sentence = "";

  public static void main(String[] args) {
    showers();
    plain();
    shared();
    notched();
    boiler();
    sticking();
    old();
    kindsAbove();
    tokens();
    numbersAndNames();
    grammar();
    order();
    truth();
    waiting();
    wraps();
    faultPlaces();
    faultWords();
    faultDepths();
    depthsThatEnd();
    textZero();
    bounds();
    namesInBeats();
    manyTexts();
    late();
    on();
    scalded();
    hastes();
    setBounds();
    allAtOnce();
    lots();
    image();
    sheets();
    refusals();
    manyCalls();
    manyObjects();
    System.out.println(wrong == 0 ? "all terms hold" : wrong + " answers are not as due");
    if (wrong != 0) System.exit(1);
  }

  private static void sentence(String s) {
    sentence = s;
  }

  private static void due(String call, long got, long want) {
    if (got == want) return;
    wrong++;
    System.out.println(sentence + ": " + call + " answered " + got + ", due is " + want);
  }

  // ---- what is made

  private static TooHotTooCold with(int... showers) {
    TooHotTooCold x = new TooHotTooCold();
    for (int i = 0; i + 2 < showers.length; i += 3) x.shower(showers[i], showers[i + 1], showers[i + 2]);
    return x;
  }

  private static void tape(TooHotTooCold x, String bytes) {
    for (int i = 0; i < bytes.length(); i++) x.feed(1, bytes.charAt(i), 0, 0, 0, 0);
  }

  private static int text(TooHotTooCold x, String bytes) {
    tape(x, bytes);
    return x.text();
  }

  private static TooHotTooCold under(String bytes, int... showers) {
    TooHotTooCold x = with(showers);
    due("the text " + bytes, text(x, bytes), 1);
    x.force(1);
    return x;
  }

  private static void sets(TooHotTooCold x, int... as) {
    for (int who = 0; who < as.length; who++) x.set(who, 2, as[who]);
  }

  private static void felt(TooHotTooCold x, int who, int... warm) {
    for (int t = 0; t < warm.length; t++) due("felt by " + who + " in beat " + t, x.at(who, t, 0), warm[t]);
  }

  private static void setAs(TooHotTooCold x, int who, int... as) {
    for (int t = 0; t < as.length; t++) due(who + " set as beat " + t + " ends", x.at(who, t, 1), as[t]);
  }

  private static void row(TooHotTooCold x, int s, int sort, int... numbers) {
    x.sheet(s, sort, numbers.length);
    for (int i = 0; i < numbers.length; i++) x.cell(s, i, numbers[i]);
  }

  // ---- 1, showers

  private static void showers() {
    sentence("Terms 1, showers: numbered from 0 on, 4 at most");
    TooHotTooCold x = new TooHotTooCold();
    for (int n = 0; n < 4; n++) due("shower", x.shower(n, n, n), n);
    due("the fifth", x.shower(0, 0, 0), -4);
    for (int n = 0; n < 4; n++) due("told(" + n + ", 1)", x.told(n, 1), n);
    sentence("Terms 1, showers: set 0, haste 8, on at first");
    for (int n = 0; n < 4; n++) {
      due("set", x.told(n, 2), 0);
      due("haste", x.told(n, 3), 8);
      due("on", x.told(n, 4), 1);
    }
    sentence("Terms 1, showers: more 0 to 9, late 0 to 4, wanted 0 to 999");
    due("all at most", new TooHotTooCold().shower(59, 4, 999), 0);
    due("all at least", new TooHotTooCold().shower(0, 0, 0), 0);
    due("a kind too many", new TooHotTooCold().shower(60, 0, 0), -2);
    due("too late", new TooHotTooCold().shower(0, 5, 0), -2);
    due("too warm", new TooHotTooCold().shower(0, 0, 1000), -2);
    sentence("Terms 1, showers: set 0 to 999, haste 0 to 16");
    due("set", x.set(0, 2, 999), 0);
    due("too far", x.set(0, 2, 1000), -7);
    due("haste", x.set(0, 3, 16), 8);
    due("too hasty", x.set(0, 3, 17), -7);
  }

  private static TooHotTooCold stays(int... showers) {
    return under(STAYS, showers);
  }

  private static void plain() {
    TooHotTooCold x = stays(PLAIN + 9, 0, 500, PLAIN, 0, 0, PLAIN, 0, 0, PLAIN, 0, 0);
    sentence("KINDS 0, a shower: felt as it comes, from 0 to 999, whatever others are set");
    for (int v : new int[] {0, 1, 500, 998, 999}) {
      sets(x, v, 999, 999, 999);
      felt(x, 0, v, v, v, v);
    }
    sentence("KINDS 0, a shower: turned as far as is said, also with more 9");
    setAs(under("turns 7" + REST, PLAIN + 9, 0, 0), 0, 7, 14, 21);
    sentence("KINDS 0, a shower: scalds by 50");
    due("told(0, 7)", x.told(0, 7), 50);
  }

  private static void shared() {
    TooHotTooCold x = stays(SHARED + 2, 0, 500, PLAIN, 0, 0, PLAIN, 0, 0, PLAIN, 0, 0);
    sentence("KINDS 1, shared: less, if another is set higher by 1; not if alike or lower");
    sets(x, 100, 99, 0, 0);
    felt(x, 0, 100);
    sets(x, 100, 100, 100, 100);
    felt(x, 0, 100);
    sets(x, 100, 101, 0, 0);
    felt(x, 0, 95);
    sentence("KINDS 1, shared: times n, from none to three");
    sets(x, 100, 999, 101, 0);
    felt(x, 0, 90);
    sets(x, 100, 999, 101, 102);
    felt(x, 0, 85);
    sentence("KINDS 1, shared: others that are on");
    x.set(1, 4, 0);
    felt(x, 0, 90);
    x.set(3, 4, 0);
    felt(x, 0, 95);
    sentence("KINDS 1, shared: also one that is off itself");
    x.set(0, 4, 0);
    felt(x, 0, 95);
    sentence("KINDS 1, shared: twice more and 1, of more 0 and more 9");
    TooHotTooCold least = stays(SHARED, 0, 0, SHARED + 9, 0, 0, PLAIN, 0, 0);
    sets(least, 100, 100, 200);
    felt(least, 0, 99);
    felt(least, 1, 81);
    sentence("KINDS 1, shared: felt 0, else the bound");
    sets(least, 1, 19, 200);
    felt(least, 0, 0);
    felt(least, 1, 0);
    sets(least, 3, 20, 200);
    felt(least, 0, 1);
    felt(least, 1, 1);
    sets(least, 0, 18, 200);
    felt(least, 0, 0);
    felt(least, 1, 0);
    sets(least, 0, 37, 200);
    felt(least, 1, 18);
    sentence("KINDS 1, shared: others set higher as the beat begins, though it is felt late");
    TooHotTooCold slow = under("turns (late=0)*(beat<2)*30" + REST, SHARED, 4, 0, PLAIN, 0, 0);
    sets(slow, 50, 0);
    felt(slow, 0, 50, 50, 49, 49, 49, 49);
    TooHotTooCold rises = under("turns (late=4)*(beat<2)*30" + REST, SHARED, 4, 0, PLAIN, 0, 0);
    sets(rises, 0, 50);
    felt(rises, 0, 0, 0, 0, 0, 0, 30, 60, 60);
    TooHotTooCold falls = under("turns 0-(late=4)*30" + REST, SHARED, 4, 0, PLAIN, 0, 0);
    sets(falls, 90, 80);
    felt(falls, 0, 90, 89, 89, 89, 89, 59, 29, 0, 0);
    sentence("KINDS 1, shared: what others are set, not what they feel");
    TooHotTooCold others = under("turns (late=4)*30" + REST, SHARED, 0, 0, PLAIN, 4, 0);
    sets(others, 20, 0);
    felt(others, 0, 20, 19, 19);
    sentence("KINDS 1, shared: turned as far as is said");
    setAs(under("turns 7" + REST, SHARED + 9, 0, 0), 0, 7, 14, 21);
  }

  private static void notched() {
    sentence("KINDS 2, notched: by more and 1, cut, times more and 1: a notch and the next to it");
    for (int more : new int[] {0, 1, 2, 8, 9}) {
      for (int far : new int[] {0, 1, 2, more, more + 1, more + 2, 2 * more + 1, 2 * more + 2, 97, 99}) {
        int want = far - far % (more + 1);
        setAs(under("turns " + far + REST, NOTCHED + more, 0, 0), 0, want, 2 * want);
        sentence("KINDS 2, notched: cut below 0, too");
        TooHotTooCold x = under("turns 0-" + far + REST, NOTCHED + more, 0, 0);
        sets(x, 999);
        setAs(x, 0, 999 - want, 999 - 2 * want);
      }
    }
    sentence("KINDS 2, notched: what the text and haste say is notched, not the text's alone");
    TooHotTooCold x = under("turns 9" + REST, NOTCHED + 4, 0, 0);
    x.set(0, 3, 4);
    setAs(x, 0, 0, 0);
    x.set(0, 3, 5);
    setAs(x, 0, 5, 10);
    sentence("KINDS 2, notched: felt as it comes, whatever others are set");
    TooHotTooCold y = stays(NOTCHED + 9, 0, 0, PLAIN, 0, 0);
    sets(y, 100, 999);
    felt(y, 0, 100);
  }

  private static void boiler() {
    sentence("KINDS 3, boiler: half of it in beats modulo (more and 2) of more and 1");
    for (int more = 0; more < 10; more++) {
      TooHotTooCold x = stays(BOILER + more, 0, 0);
      sets(x, 100);
      int[] want = new int[30];
      for (int t = 0; t < 30; t++) want[t] = 100;
      for (int t = more + 1; t < 30; t += more + 2) want[t] = 50;
      felt(x, 0, want);
    }
    sentence("KINDS 3, boiler: half is cut");
    TooHotTooCold x = stays(BOILER, 0, 0, PLAIN, 0, 0);
    for (int v : new int[] {0, 1, 2, 3, 99, 998, 999}) {
      sets(x, v, 0);
      felt(x, 0, v, v / 2, v, v / 2);
    }
    sentence("KINDS 3, boiler: half of what a shared one feels");
    sets(x, 100, 101);
    felt(x, 0, 99, 49);
    TooHotTooCold most = stays(BOILER + 9, 0, 0, PLAIN, 0, 0);
    sets(most, 100, 101);
    due("beat 9", most.at(0, 9, 0), 81);
    due("beat 10", most.at(0, 10, 0), 40);
    due("beat 11", most.at(0, 11, 0), 81);
    due("beat 21", most.at(0, 21, 0), 40);
    sentence("KINDS 3, boiler: felt 0, else the bound, then half of 0");
    sets(x, 0, 9);
    felt(x, 0, 0, 0, 0);
    sentence("KINDS 3, boiler: beats of the morning, though it is felt late");
    TooHotTooCold slow = stays(BOILER, 1, 0);
    sets(slow, 90);
    felt(slow, 0, 90, 45, 90, 45);
    sentence("KINDS 3, boiler: scalds 10 times more later");
    for (int more = 0; more < 10; more++) due("more " + more, with(BOILER + more, 0, 0).told(0, 7), 50 + 10 * more);
    sentence("KINDS 3, boiler: turned as far as is said");
    setAs(under("turns 7" + REST, BOILER + 9, 0, 0), 0, 7, 14, 21);
  }

  private static void sticking() {
    sentence("KINDS 4, sticking: turned 0 below 3 times more, from there on as a notched one, either sign");
    for (int more = 0; more < 10; more++) {
      for (int far : new int[] {0, 1, 3 * more - 1, 3 * more, 3 * more + 1, 99}) {
        if (far < 0) continue;
        int want = far < 3 * more ? 0 : far - far % (more + 1);
        setAs(under("turns " + far + REST, STICKING + more, 0, 0), 0, want, 2 * want);
        TooHotTooCold x = under("turns 0-" + far + REST, STICKING + more, 0, 0);
        sets(x, 999);
        setAs(x, 0, 999 - want, 999 - 2 * want);
      }
    }
    sentence("KINDS 4, sticking: what the text and haste say, not the text's alone, not in notches");
    TooHotTooCold x = under("turns 12" + REST, STICKING + 3, 0, 0);
    x.set(0, 3, 5);
    setAs(x, 0, 0);
    x.set(0, 3, 6);
    setAs(x, 0, 8);
    x.set(0, 3, 16);
    setAs(x, 0, 24);
    sentence("KINDS 4, sticking: felt as it comes");
    TooHotTooCold y = stays(STICKING + 9, 0, 0, PLAIN, 0, 0);
    sets(y, 100, 999);
    felt(y, 0, 100, 100);
    sentence("KINDS 4, sticking: scalds by 50");
    due("told(0, 7)", y.told(0, 7), 50);
  }

  private static void old() {
    sentence("KINDS 5, old: turned 0, whatever the text and haste say");
    TooHotTooCold x = under("turns 99;costs 3;yells 1;", OLD + 9, 0, 500, PLAIN, 0, 0);
    x.set(0, 3, 16);
    sets(x, 7, 999);
    setAs(x, 0, 7, 7, 7);
    felt(x, 0, 7, 7, 7);
    due("at last", x.at(0, 29, 1), 7);
    sentence("KINDS 5, old: it costs and cries all the same");
    due("cost", x.day(0, 0), 90);
    due("cries", x.day(0, 1), 1073741823);
    sentence("KINDS 5, old: scalds 4 times more earlier");
    for (int more = 0; more < 10; more++) due("more " + more, with(OLD + more, 0, 0).told(0, 7), 50 - 4 * more);
  }

  private static void kindsAbove() {
    int[] scalds = {50, 50, 50, 90, 50, 34};
    int[] turned = {13, 13, 10, 13, 10, 0};
    int[] shares = {100, 91, 100, 91, 100, 100};
    int[] halves = {100, 91, 100, 45, 100, 100};
    for (int kind = 0; kind < 6; kind++) {
      sentence("KINDS " + kind + ": whatever isn't told is as of the kind above");
      due("scalds", with(10 * kind + 4, 0, 0).told(0, 7), scalds[kind]);
      setAs(under("turns 13" + REST, 10 * kind + 4, 0, 0), 0, turned[kind]);
      TooHotTooCold x = stays(10 * kind + 4, 0, 0, PLAIN, 0, 0);
      sets(x, 100, 101);
      due("felt in beat 4", x.at(0, 4, 0), shares[kind]);
      due("felt in beat 5", x.at(0, 5, 0), halves[kind]);
    }
  }

  // ---- 1, texts

  private static void fine(String bytes) {
    due("the text " + bytes, text(new TooHotTooCold(), bytes), 1);
  }

  private static void says(String turns, int want) {
    TooHotTooCold x = under("turns " + turns + REST, PLAIN + 7, 3, 0);
    due("turns " + turns, x.asks(0, 2000 * (1000 - 5) + 1012, 44, 6, 0), want);
  }

  /** The mark ^ stands ahead of the token at fault. */
  private static void fault(String marked) {
    TooHotTooCold x = new TooHotTooCold();
    due("the fault in " + marked, text(x, marked.replace("^", "")), -100 - marked.indexOf('^'));
    due("texts", x.count(2), 1);
    due("the tape", x.count(4), 0);
  }

  private static void tokens() {
    sentence("TEXT: blanks may stand between, 32 and 10, or none");
    fine("turns 1;costs 1;yells 1;");
    fine("turns(1);costs(1);yells(1);");
    fine("turns-1;costs-1;yells-1;");
    fine("turns1;costs1;yells1;");
    fine("\n turns \n\n 1 ; \n costs\n1\n;\nyells   1   ;  \n");
    fine("turns not(1)or(not 1)and-1;costs 1;yells 1;");
    sentence("TEXT: other bytes are no blanks");
    for (int b : new int[] {0, 1, 8, 9, 11, 12, 13, 14, 31, 33, 127, 128, 133, 160, 255}) {
      String sign = String.valueOf((char) b);
      fault("^" + sign + "turns 1" + REST);
      fault("turns 1" + REST + "^" + sign);
      fault("turns 1 ^" + sign + REST);
    }
    sentence("TEXT: words are as long as can be");
    fault("^turnscold" + REST);
    fault("turns ^coldwas" + REST);
    fault("turns ^notcold" + REST);
    fault("turns 1 ^orcold" + REST);
    fault("turns 1 ^andnot 1" + REST);
    fine("turns 1or 2and 3or not 4" + REST);
    fine("turns not-cold" + REST);
    sentence("TEXT: numbers are as long as can be");
    fault("turns ^12345" + REST);
    fault("turns 1 ^2" + REST);
    fault("turns 1234 ^5" + REST);
    fault("turns 12\n^34" + REST);
    fault("turns 12^cold" + REST);
    fault("turns cold^12" + REST);
    sentence("TEXT: letters are a to z alone");
    for (char c : new char[] {'`', '{', 'A', 'Z', '@', '[', '_', '\u00e1'}) fault("turns ^" + c + REST);
    sentence("TEXT: digits are 0 to 9 alone");
    for (char c : new char[] {'/', ':', '\u00b2', '.', ','}) fault("turns ^" + c + REST);
    sentence("TEXT: signs are ( ) ; + - * < = alone");
    for (char c : "!\"#$%&',./:>?@[\\]^_`{|}~".replace("^", "").toCharArray()) fault("turns 1 ^" + c + " 1" + REST);
    due("the fault of ^", text(new TooHotTooCold(), "turns 1 ^ 1" + REST), -108);
  }

  private static void numbersAndNames() {
    sentence("TEXT: a number of one digit to four");
    says("0", 0);
    says("9", 9);
    says("99", 99);
    says("100-9", 91);
    says("9999-9990", 9);
    says("0000", 0);
    says("0007", 7);
    says("010", 10);
    sentence("TEXT: a number of five digits is too long");
    fault("turns ^00007" + REST);
    fault("turns ^10000" + REST);
    fault("turns ^99999999999999999999" + REST);
    fault("turns 1;costs ^12345;yells 0;");
    fault("turns 1;costs 1;yells 1+^12345;");
    sentence("TEXT: names are cold was set beat late more");
    says("cold", -5);
    says("was", 12);
    says("set", 44);
    says("beat", 6);
    says("late", 3);
    says("more", 7);
    sentence("TEXT: no other name");
    for (String w : "a z c col colds wa wass se sett bea beats lat lates mor mores warm felt wanted haste on kind turn cost yell".split(" ")) {
      fault("turns ^" + w + REST);
    }
    sentence("TEXT: a key is no name, a name is no key");
    for (String w : "turns costs yells or and".split(" ")) fault("turns ^" + w + REST);
    for (String w : "cold was set beat late more or and not".split(" ")) {
      fault("^" + w + " 1" + REST);
      if (!w.equals("or") && !w.equals("and")) fault("turns 1 ^" + w + REST);
    }
  }

  private static void grammar() {
    sentence("TEXT: turns E ; costs E ; yells E ; in this order, each once, nothing behind");
    fault("^costs 1;turns 1;yells 0;");
    fault("^yells 0;turns 1;costs 1;");
    fault("turns 1;^yells 0;costs 1;");
    fault("turns 1;^turns 1;costs 1;yells 0;");
    fault("turns 1;costs 1;^costs 1;yells 0;");
    fault("turns 1;costs 1;yells 0;^yells 0;");
    fault("turns 1;costs 1;yells 0;^;");
    fault("turns 1;costs 1;yells 0;^1");
    fault("turns 1;costs 1;yells 0;^turns 1;costs 1;yells 0;");
    fault("^1;2;3;");
    sentence("TEXT: each ends with ;");
    fault("turns 1 ^costs 1;yells 0;");
    fault("turns 1;costs 1 ^yells 0;");
    fault("turns 1;costs 1;yells 0^");
    sentence("TEXT: an E must not be empty");
    fault("turns ^;costs 1;yells 0;");
    fault("turns 1;costs ^;yells 0;");
    fault("turns 1;costs 1;yells ^;");
    fault("turns (^)" + REST);
    sentence("TEXT: E is of ANDs, AND of NOTs");
    for (String sign : new String[] {"or", "and"}) {
      fault("turns ^" + sign + " 1" + REST);
      fault("turns 1 " + sign + " ^;");
      fault("turns 1 " + sign + " ^or 1" + REST);
      fault("turns 1 " + sign + " ^and 1" + REST);
      fine("turns 1 " + sign + " not 1 " + sign + " 1<2" + REST);
    }
    sentence("TEXT: not stands ahead of a NOT, not inside a SUM");
    fine("turns not not 1<2" + REST);
    fine("turns not 1+2<3" + REST);
    fine("turns (not 1)+2<(not 3)" + REST);
    fault("turns 1+^not 1" + REST);
    fault("turns 1*^not 1" + REST);
    fault("turns 1<^not 1" + REST);
    fault("turns -^not 1" + REST);
    fault("turns not ^;");
    sentence("TEXT: < or = once");
    fault("turns 1<2^<3" + REST);
    fault("turns 1=2^=3" + REST);
    fault("turns 1<2^=3" + REST);
    fault("turns 1=2^<3" + REST);
    fault("turns ^<1" + REST);
    fault("turns 1<^;");
    fault("turns 1=^=1" + REST);
    fine("turns (1<2)<3 and 1<(2=3)" + REST);
    sentence("TEXT: SUM, TERM, ONE");
    fault("turns ^+1" + REST);
    fault("turns 1+^+1" + REST);
    fault("turns 1-^+1" + REST);
    fault("turns 1*^*1" + REST);
    fault("turns ^*1" + REST);
    fault("turns 1+^;");
    fault("turns 1*^;");
    fault("turns -^;");
    fault("turns --^+1" + REST);
    fine("turns 1--1+-1*--1" + REST);
    sentence("TEXT: ( E )");
    fault("turns (1^;");
    fault("turns 1^)" + REST);
    fault("turns (1)^)" + REST);
    fault("turns (1 ^2)" + REST);
    fault("turns 1 ^(2)" + REST);
    fault("turns (1)^(2)" + REST);
    fine("turns (1 or 0 and not 1<2+3*-4)" + REST);
  }

  private static void order() {
    sentence("TEXT: * ahead of + and -, these from the left");
    says("2+3*4", 14);
    says("2*3+4", 10);
    says("2*3-4*5", -14);
    says("9-3-2", 4);
    says("9-3+2", 8);
    says("9+3-2", 10);
    says("9-(3-2)", 8);
    says("2*(3+4)", 14);
    sentence("TEXT: - is ahead of *");
    says("-2*3", -6);
    says("2*-3", -6);
    says("-2-3", -5);
    says("-(2-3)", 1);
    says("--2", 2);
    says("2--2", 4);
    says("---2", -2);
    sentence("TEXT: + ahead of < and =");
    says("1+2<4", 1);
    says("4<1+2", 0);
    says("1+2=4-1", 1);
    sentence("TEXT: < ahead of not, not ahead of and, and ahead of or");
    says("not 2<1", 1);
    says("not 2<3", 0);
    says("not 1=1 or 1", 1);
    says("not(1=1 or 1)", 0);
    says("not 0 and 0", 0);
    says("not(0 and 0)", 1);
    says("not 0+1", 0);
    says("1 or 1 and 0", 1);
    says("0 and 1 or 1", 1);
    says("0 and(1 or 1)", 0);
    says("1 or 0 and 0 or 0", 1);
  }

  private static void truth() {
    sentence("TEXT: or, and, not, <, = are 1 or 0; what is not 0 is true");
    int[] values = {0, 1, 2, -1, -7, 99};
    for (int a : values) {
      String one = a < 0 ? "-" + -a : "" + a;
      says("not " + one, a == 0 ? 1 : 0);
      says("not not " + one, a == 0 ? 0 : 1);
      for (int b : values) {
        String two = b < 0 ? "-" + -b : "" + b;
        says(one + " or " + two, a != 0 || b != 0 ? 1 : 0);
        says(one + " and " + two, a != 0 && b != 0 ? 1 : 0);
        says(one + "<" + two, a < b ? 1 : 0);
        says(one + "=" + two, a == b ? 1 : 0);
      }
    }
    says("2 and 1", 1);
    says("4 or 8", 1);
    says("(1<2)+(2=2)+(1 and 1)+(1 or 0)+(not 0)", 5);
  }

  private static void waiting() {
    sentence("TEXT: as many numbers wait as can: five open, with or, and, <, + and * in each");
    for (int inner = 0; inner < 2; inner++) {
      StringBuilder e = new StringBuilder();
      for (int i = 0; i < 5; i++) e.append("0 or 1 and 0<0+1*(");
      says(e + "0 or 1 and 0<0+1*" + inner + ")))))", inner);
    }
    sentence("TEXT: as long a sum, as long a product, as many ors as can stand there");
    says("1+".repeat(64) + "1-0", 65);
    says("2*".repeat(5) + "1*".repeat(59) + "1", 32);
    says("0 or ".repeat(27) + "1", 1);
    says("1 and ".repeat(22) + "0", 0);
    says("1 and ".repeat(22) + "7", 1);
  }

  private static void wraps() {
    String low = "8192*8192*32", high = "(8192*8192*32-1)";
    sentence("TEXT: an E is an int of 32 bits: + wraps");
    says(high + "+1=" + low, 1);
    says(high + "+1<0", 1);
    says(low + "+" + low + "=0", 1);
    says(high + "+" + high + "=0-2", 1);
    sentence("TEXT: an E is an int of 32 bits: - wraps");
    says("0<" + low + "-1", 1);
    says("0-" + low + "=" + low, 1);
    says("0-1-" + high + "=" + low, 1);
    says(high + "-(0-1)=" + low, 1);
    sentence("TEXT: an E is an int of 32 bits: * wraps");
    says("8192*8192*64=0", 1);
    says("8192*8192*63<0", 1);
    says("8192*8192*96=" + low, 1);
    says("256*256*256*256+5", 5);
    says("9999*9999*43<0", 0);
    says("9999*9999*22<0", 1);
    says(low + "*(0-1)=" + low, 1);
    says(high + "*" + high, 1);
    sentence("TEXT: an E is an int of 32 bits: - ahead of a ONE wraps");
    says("-(" + low + ")=" + low, 1);
    says("-(" + low + ")<0", 1);
    says("--(" + low + ")=" + low, 1);
    sentence("TEXT: < and = hold for the ends of all ints");
    says(low + "<1", 1);
    says("1<" + low, 0);
    says(low + "<" + high, 1);
    says(high + "<" + low, 0);
    says(high + "<" + high, 0);
    says("0-1<" + high, 1);
    says(high + "<0-1", 0);
    says(low + "=" + high, 0);
    says("8192*8192*64<1", 1);
    sentence("TEXT: the ends of all ints are true, what wrapped to 0 is not");
    says("not " + low, 0);
    says(low + " and " + high, 1);
    says("8192*8192*64 or 0", 0);
    says("8192*8 and 8192*8", 1);
    says(low + " and 2", 1);
    says(low + " or " + low, 1);
    says("(0-7)or 7", 1);
    says("not 8192*8192*64", 1);
    sentence("TEXT: what wrapped is bounded then");
    says(high, 99);
    says(high + "+1", -99);
    says(low, -99);
    says(low + "-1", 99);
    TooHotTooCold x = under("turns 0;costs " + high + ";yells " + low + ";", PLAIN, 0, 0);
    due("costs, the most", x.asks(1, 0, 0, 0, 0), 99);
    due("yells, the least", x.asks(2, 0, 0, 0, 0), 1);
    x = under("turns 0;costs " + high + "+1;yells 8192*8192*64;", PLAIN, 0, 0);
    due("costs, the least", x.asks(1, 0, 0, 0, 0), 0);
    due("yells, wrapped to 0", x.asks(2, 0, 0, 0, 0), 0);
    x = under("turns 0;costs 8192*8192*64+7;yells 8192*8192*64+1;", PLAIN, 0, 0);
    due("costs, wrapped to 7", x.asks(1, 0, 0, 0, 0), 7);
    due("yells, wrapped to 1", x.asks(2, 0, 0, 0, 0), 1);
  }

  private static void faultPlaces() {
    sentence("FAULT: the text's size, if it ends too early, behind each token");
    String whole = "turns 1 + ( 2 ) ; costs - 3 < 4 ; yells not 5 or 6 and 7 ;";
    for (int size = 0; size < whole.length(); size++) {
      due("the first " + size, text(new TooHotTooCold(), whole.substring(0, size)), -100 - endsAt(whole, size));
    }
    fine(whole);
    sentence("FAULT: the text's size, blanks behind it too");
    fault("^");
    fault("   ^");
    fault("turns  \n ^");
    fault("turns 1;costs 1;yells 1 \n^");
    sentence("FAULT: the first byte of the token, not a later one");
    fault("turns 1 ^turns;");
    fault("turns 1 ^1234;");
    fault("turns 1\n\n ^cold;");
    sentence("FAULT: the first one of several");
    fault("^? ? ?");
    fault("^x turns ?");
    fault("turns ^; ? x 12345");
    fault("turns ^12345 ?");
    fault("turns ^? 12345");
    fault("turns ^wrong ( ( ( ( ( (");
    fault("turns (((((^( ?");
    fault("turns 1 ^1 ((((((");
    sentence("FAULT: at the first byte, at the last of 160");
    fault("^)");
    due("the last", text(new TooHotTooCold(), "turns 1;costs 1;yells 1;" + " ".repeat(135) + ";"), -259);
    due("behind the last", text(new TooHotTooCold(), "turns 1;costs 1;yells 1" + " ".repeat(137)), -260);
    due("a word at the end", text(new TooHotTooCold(), " ".repeat(155) + "turnz"), -255);
    due("a number at the end", text(new TooHotTooCold(), "turns" + " ".repeat(150) + "12345"), -255);
  }

  /** The size, but a word that is cut is a fault at its beginning. */
  private static int endsAt(String whole, int size) {
    int from = size;
    while (from > 0 && Character.isLetter(whole.charAt(from - 1))) from--;
    boolean known = Arrays.asList("", "turns", "costs", "yells", "not", "or", "and").contains(whole.substring(from, size));
    return known ? size : from;
  }

  private static void faultWords() {
    sentence("FAULT: a byte that begins no token");
    for (int b = 0; b < 256; b++) {
      boolean begins = b == 32 || b == 10 || b >= 'a' && b <= 'z' || b >= '0' && b <= '9' || "();+-*<=".indexOf(b) >= 0;
      TooHotTooCold x = new TooHotTooCold();
      tape(x, "turns 1+1");
      x.feed(1, b, 0, 0, 0, 0);
      tape(x, "+1" + REST);
      // a blank and a digit are fine; behind a ; and what needs a ONE the + can't stand; the rest can't stand itself
      boolean isFine = b == 32 || b == 10 || b >= '0' && b <= '9';
      boolean stands = ";+-*<=".indexOf(b) >= 0;
      int want = begins && isFine ? 1 : begins && stands ? -110 : -109;
      due("byte " + b, x.text(), want);
    }
    sentence("FAULT: a word that is neither key nor name, in each part");
    fault("^turn 1;costs 1;yells 1;");
    fault("turns 1;^cost 1;yells 1;");
    fault("turns 1;costs 1;^yell 1;");
    fault("turns 1;costs 1;yells ^well;");
    sentence("FAULT: a number that is too long, also where none can stand");
    fault("^12345");
    fault("turns 1 ^12345" + REST);
    fault("turns 1;^12345");
  }

  private static void faultDepths() {
    sentence("FAULT: a (, a not, a - while 5 are open: the sixth, whatever the five are");
    String[] kinds = {"(", "not ", "-"};
    // a not can't stand behind a -, so all nots and ( come ahead of all -, but inside a (
    for (int code = 0; code < 243; code++) {
      StringBuilder five = new StringBuilder();
      boolean stands = true, behindMinus = false;
      for (int i = 0, rest = code; i < 5; i++, rest /= 3) {
        if (behindMinus && rest % 3 == 1) stands = false;
        behindMinus = rest % 3 == 2;
        five.append(kinds[rest % 3]);
      }
      if (!stands) continue;
      StringBuilder shut = new StringBuilder();
      for (int i = 0; i < five.length(); i++) shut.append(five.charAt(i) == '(' ? ")" : "");
      fine("turns " + five + "1" + shut + REST);
      fault("turns " + five + "^(1)" + shut + REST);
      fault("turns " + five + "^-1" + shut + REST);
      fault("turns " + five + "^not 1" + shut + REST);
    }
    sentence("FAULT: what is open, in costs and in yells");
    fine("turns 1;costs (((((1)))));yells (((((1)))));");
    fault("turns 1;costs (((((^(1))))));yells 0;");
    fault("turns 1;costs 1;yells -----^-1;");
  }

  private static void depthsThatEnd() {
    sentence("FAULT: a ( is open till its )");
    fine("turns (((((1)))))+(((((1)))))" + REST);
    fine("turns ((((1)))+(((1))))" + REST);
    fine("turns ((((1)+(1)+(1))+((1)+(1))))" + REST);
    fault("turns ((((1)+((^(1))))))" + REST);
    fault("turns (((((1+^(1" + REST);
    fault("turns (((((1+^-1" + REST);
    fault("turns (((((1)+(^(1" + REST);
    sentence("FAULT: a - is open till its ONE ends");
    fine("turns -----1+-----1" + REST);
    fine("turns -----1*-----1" + REST);
    fine("turns -----1<-----1" + REST);
    fine("turns -(1)*(((((1)))))" + REST);
    fine("turns ----(1)*-----1" + REST);
    fault("turns -(1*---^-1)" + REST);
    fault("turns -((((^(1" + REST);
    fault("turns 1*-----^-1" + REST);
    sentence("FAULT: a not is open till its NOT ends, a SUM behind < with it");
    fine("turns not not not not not 1 or not not not not not 1" + REST);
    fine("turns not not not not not 1 and not not not not not 1" + REST);
    fine("turns not 1<----1" + REST);
    fault("turns not 1<----^-1" + REST);
    fault("turns not 1+----^-1" + REST);
    fault("turns not 1*((((^(1" + REST);
    fault("turns not not 1=---^-1" + REST);
    fine("turns not 1<2 and -----1" + REST);
    fine("turns not 1<2 or -----1" + REST);
    fine("turns not(not 1 and not not not 1)or not not not not not 1" + REST);
    fault("turns not(not 1 and not not not ^not 1)" + REST);
    sentence("FAULT: nothing is open behind a ;");
    fine("turns -----1;costs -----1;yells not not not not not 1;");
    sentence("FAULT: what a text left open isn't open in the next one");
    for (String left : new String[] {"turns (((((", "turns -----", "turns not not not not not", "turns (((((1", "turns -----;", "turns (((((("}) {
      TooHotTooCold x = new TooHotTooCold();
      due("a fault", text(x, left) < -100 ? 1 : 0, 1);
      due("the next", text(x, "turns (((((1)))))" + REST), 1);
      due("the next", text(x, "turns -----1" + REST), 2);
    }
  }

  private static int asked(TooHotTooCold x, int part, int cold, int was) {
    return x.asks(part, 2000 * (cold + 1000) + was + 1000, 0, 0, 0);
  }

  private static void textZero() {
    TooHotTooCold x = with(PLAIN, 0, 0);
    sentence("TEXTS: text 0 is the law at first");
    due("count(2)", x.count(2), 1);
    due("count(3)", x.count(3), 0);
    sentence("TEXTS: text 0 turns cold, -99 to 99");
    for (int cold : new int[] {-1000, -100, -99, -98, -1, 0, 1, 98, 99, 100, 999}) {
      due("turns at " + cold, asked(x, 0, cold, 7), Math.max(-99, Math.min(99, cold)));
    }
    sentence("TEXTS: text 0 costs cold * cold, 0 to 99");
    for (int cold : new int[] {-1000, -10, -9, -1, 0, 1, 9, 10, 999}) {
      due("costs at " + cold, asked(x, 1, cold, 7), Math.min(99, cold * cold));
    }
    sentence("TEXTS: text 0 yells below -20");
    for (int cold : new int[] {-1000, -22, -21}) due("yells at " + cold, asked(x, 2, cold, 7), 1);
    for (int cold : new int[] {-20, -19, 0, 20, 21, 999}) due("yells at " + cold, asked(x, 2, cold, 7), 0);
    sentence("TEXTS: the tape is empty, though text 0 was read");
    due("count(4)", x.count(4), 0);
  }

  private static void bounds() {
    sentence("TEXTS: turns -99 to 99, else the bound");
    for (int v : new int[] {-9999, -100, -99, -98, 0, 98, 99, 100, 9999}) {
      String e = v < 0 ? "0-" + -v : "" + v;
      int want = Math.max(-99, Math.min(99, v));
      TooHotTooCold x = under("turns " + e + ";costs " + e + ";yells " + e + ";", PLAIN, 0, 0);
      due("turns " + v, asked(x, 0, 0, 0), want);
      sets(x, 500);
      setAs(x, 0, 500 + want);
      sentence("TEXTS: costs 0 to 99, else the bound");
      due("costs " + v, asked(x, 1, 0, 0), Math.max(0, want));
      due("cost of a day", x.day(0, 0), 30 * Math.max(0, want));
      sentence("TEXTS: yells: not 0");
      due("yells " + v, asked(x, 2, 0, 0), v == 0 ? 0 : 1);
      due("cries of a day", x.day(0, 1), v == 0 ? 0 : 1073741823);
    }
  }

  private static void namesInBeats() {
    sentence("TEXTS: cold is wanted less felt, in each beat");
    setAs(under("turns cold" + REST, PLAIN, 0, 50), 0, 50, 50, 50);
    sentence("TEXTS: was is cold of the beat ahead, in beat 0 as cold");
    TooHotTooCold x = under("turns was" + REST, PLAIN, 0, 50);
    setAs(x, 0, 50, 100, 100, 50, 0);
    setAs(under("turns (was=cold)*9+(beat=0)" + REST, PLAIN, 0, 50), 0, 10, 10, 19, 19, 28);
    sentence("TEXTS: was begins anew in beat 0, when beats passed");
    x.pass(2);
    due("told(0, 2)", x.told(0, 2), 100);
    setAs(x, 0, 50, 0, 0);
    sentence("TEXTS: set is set as the beat begins, not what comes late, not as it ends");
    TooHotTooCold late = under("turns set+1" + REST, PLAIN, 4, 0);
    setAs(late, 0, 1, 3, 7, 15, 31, 63);
    sentence("TEXTS: beat from 0 to 29");
    TooHotTooCold beats = under("turns 0;costs beat;yells beat=0 or beat=29;", PLAIN, 0, 0);
    due("cost", beats.day(0, 0), 435);
    due("cries", beats.day(0, 1), 1 + (1 << 29));
    sentence("TEXTS: late and more are the shower's");
    TooHotTooCold two = under("turns 0;costs late*10+more;yells 0;", PLAIN + 9, 4, 0, OLD, 1, 0);
    due("cost", two.day(0, 0), 30 * 49);
    due("cost", two.day(1, 0), 30 * 10);
    two.set(0, 0, 0);
    due("cost, no longer late", two.day(0, 0), 30 * 9);
  }

  private static void manyTexts() {
    sentence("TEXTS: numbered from 0 on, 6 at most");
    TooHotTooCold x = with(PLAIN, 0, 0);
    for (int t = 1; t < 6; t++) due("text()", text(x, "turns " + t + REST), t);
    due("the seventh", text(x, "turns 6" + REST), -4);
    due("count(2)", x.count(2), 6);
    sentence("TEXTS: each stays what it was");
    for (int t = 5; t > 0; t--) {
      x.force(t);
      due("turns by " + t, asked(x, 0, 50, 0), t);
    }
    x.force(0);
    due("turns by 0", asked(x, 0, 50, 0), 50);
  }

  // ---- 2, beats

  private static void late() {
    for (int late = 0; late < 5; late++) {
      sentence("Terms 2: what comes is set as beat (t less late) began, beat 0's below 0: late " + late);
      TooHotTooCold x = under("turns 1" + REST, PLAIN, late, 0);
      sets(x, 40);
      for (int t = 0; t < 30; t++) due("felt in beat " + t, x.at(0, t, 0), 40 + Math.max(0, t - late));
      due("set as beat 29 ends", x.at(0, 29, 1), 70);
    }
    sentence("Terms 2: beats 0 to 29, from set as it is");
    TooHotTooCold x = with(PLAIN, 0, 5);
    due("beat 30", x.at(0, 30, 0), -200000);
    due("beat -1", x.at(0, -1, 0), -200000);
    sentence("Terms 2: in thought: set stays");
    x.house(0);
    due("told(0, 2)", x.told(0, 2), 0);
  }

  private static void on() {
    TooHotTooCold x = under("turns 9;costs 5;yells 1;", PLAIN, 0, 0, PLAIN, 0, 0);
    sets(x, 60, 60);
    x.set(1, 4, 0);
    sentence("Terms 2: one that is off feels, but costs nothing, neither cries nor is scalded nor is turned");
    felt(x, 1, 60, 60, 60);
    setAs(x, 1, 60, 60, 60);
    due("cost", x.day(1, 0), 0);
    due("cries", x.day(1, 1), 0);
    due("scalded", x.day(1, 2), 0);
    due("the most felt", x.day(1, 3), 60);
    sentence("Terms 2: one that is on costs, cries, is scalded, is turned in each of thirty");
    due("cost", x.day(0, 0), 150);
    due("cries", x.day(0, 1), 1073741823);
    due("scalded", x.day(0, 2), 30);
    setAs(x, 0, 69, 78);
    sentence("Terms 2: one that is off may rest");
    due("rests", x.rests(1, 60), 0);
    due("rests", x.rests(1, 59), -1);
  }

  private static void scalded() {
    sentence("Terms 2: scalded, if felt less wanted is so much or more: of each kind, of more 0 and 9");
    for (int kind = 0; kind < 6; kind++) {
      for (int more : new int[] {0, 9}) {
        TooHotTooCold x = stays(10 * kind + more, 0, 300);
        int by = x.told(0, 7);
        int halved = kind == 3 ? more == 0 ? 15 : 2 : 0;
        sets(x, 300 + by - 1);
        due("one less, kind " + kind + ", more " + more, x.day(0, 2), 0);
        sets(x, 300 + by);
        due("so much, kind " + kind + ", more " + more, x.day(0, 2), 30 - halved);
        sets(x, 300 + by + 1);
        due("one more, kind " + kind + ", more " + more, x.day(0, 2), 30 - halved);
        sets(x, 300 - by);
        due("too cold, kind " + kind + ", more " + more, x.day(0, 2), 0);
      }
    }
    sentence("Terms 2: scalded by the most that can be");
    TooHotTooCold x = stays(PLAIN, 0, 0);
    sets(x, 999);
    due("scalded", x.day(0, 2), 30);
    sentence("Terms 2: by what it feels, not what it is set");
    TooHotTooCold late = under("turns (beat=0)*60" + REST, PLAIN, 4, 10);
    due("scalded", late.day(0, 2), 25);
  }

  private static void hastes() {
    sentence("Terms 2: turns times haste by 8, cut, either sign, haste 0 to 16");
    for (int haste = 0; haste <= 16; haste++) {
      for (int turns : new int[] {0, 1, 7, 8, 9, 99}) {
        TooHotTooCold x = under("turns " + turns + "-2*" + turns + "*(late=1)" + REST, PLAIN, 0, 0, PLAIN, 1, 0);
        sets(x, 400, 600);
        x.set(0, 3, haste);
        x.set(1, 3, haste);
        setAs(x, 0, 400 + turns * haste / 8);
        setAs(x, 1, 600 - turns * haste / 8);
      }
    }
    sentence("Terms 2: turns is bounded, then comes haste");
    TooHotTooCold x = under("turns 200" + REST, PLAIN, 0, 0);
    x.set(0, 3, 16);
    setAs(x, 0, 198);
    x.set(0, 3, 4);
    setAs(x, 0, 49);
  }

  private static void setBounds() {
    sentence("Terms 2: set 0 to 999, else the bound");
    TooHotTooCold up = under("turns 9" + REST, PLAIN, 0, 0);
    for (int v : new int[] {989, 990, 991, 998, 999}) {
      sets(up, v);
      setAs(up, 0, Math.min(999, v + 9), Math.min(999, v + 18));
      due("as beat 29 ends", up.at(0, 29, 1), 999);
    }
    TooHotTooCold down = under("turns 0-9" + REST, PLAIN, 0, 0);
    for (int v : new int[] {0, 1, 8, 9, 10}) {
      sets(down, v);
      setAs(down, 0, Math.max(0, v - 9), Math.max(0, v - 18));
      due("as beat 29 ends", down.at(0, 29, 1), 0);
    }
    sentence("Terms 2: felt and set at their most");
    sets(up, 999);
    felt(up, 0, 999, 999);
    sentence("Terms 2: it comes back from the bound at once");
    setAs(under("turns (beat=0)*(0-9)+(beat=1)*5" + REST, PLAIN, 0, 0), 0, 0, 5);
  }

  private static void allAtOnce() {
    sentence("Terms 2: first, of all, what comes and is felt; then each is turned");
    TooHotTooCold x = under("turns 9*(late=0)" + REST, PLAIN, 0, 0, SHARED, 1, 0, PLAIN, 0, 0);
    sets(x, 95, 100, 95);
    felt(x, 1, 100, 98, 98);
    TooHotTooCold y = under("turns 9*(late=0)" + REST, SHARED, 1, 0, PLAIN, 0, 0);
    sets(y, 100, 95);
    felt(y, 0, 100, 99, 99);
    sentence("Terms 2: two that share, turned in the same beat");
    TooHotTooCold z = under("turns cold" + REST, SHARED, 0, 100, SHARED, 0, 200);
    sets(z, 0, 0);
    felt(z, 0, 0, 99, 99, 100, 100);
    felt(z, 1, 0, 99, 198, 200);
  }

  // ---- 2, lots, the image, sheets, refusals

  private static int lot(int seed, int which) {
    java.math.BigInteger b = java.math.BigInteger.valueOf(seed + 1), m = java.math.BigInteger.valueOf(2147483647);
    for (int i = 0; i <= which; i++) b = b.multiply(java.math.BigInteger.valueOf(48271)).mod(m);
    return b.mod(java.math.BigInteger.valueOf(1000)).intValue();
  }

  /** A seed's lot of one, told by who does not cry: it cries, if it isn't set as high as it is wanted. */
  private static void lots() {
    sentence("DRAWN: set at first is a lot modulo 1000, the first of seed and 1");
    for (int seed : new int[] {0, 1, 2, 20, 999, 44487, 44488, 99998, 99999}) {
      for (int who = 0; who < 4; who++) {
        TooHotTooCold x = under("turns 0;costs 0;yells not cold=0;", PLAIN, 0, 0, PLAIN, 0, 0, PLAIN, 0, 0, PLAIN, 0, 0);
        sentence("DRAWN: each further one the last times 48271 modulo 2147483647: seed " + seed + ", shower " + who);
        for (int y = 0; y < 4; y++) x.set(y, 1, lot(seed, y));
        due("nobody cries", x.drawn(seed, 1), 0);
        int wanted = lot(seed, who);
        x.set(who, 1, wanted == 0 ? 1 : wanted - 1);
        due("one cries", x.drawn(seed, 1), 1 << who);
      }
    }
    sentence("DRAWN: the first lots");
    due("seed 0", lot(0, 0), 271);
    due("seed 44488", lot(44488, 0), 48271L * 44489 % 2147483647 % 1000);
    sentence("DRAWN: a seed of odds may pass 99999");
    TooHotTooCold x = under("turns 0;costs 0;yells 0;", PLAIN, 0, lot(100028, 0));
    due("of 30 from 99999", x.odds(99999, 30, 0, 1), 30);
    due("of 29 from 99999", x.odds(99999, 29, 0, 0), 0);
    sentence("DRAWN: but the first may not");
    due("100000", x.odds(100000, 1, 0, 0), TooHotTooCold.NO);
    due("100000", x.drawn(100000, 0), -2);
  }

  private static void image() {
    sentence("IMAGE: it keeps late, wanted, set, haste, which are on, how many there are, the law");
    TooHotTooCold x = under(STAYS, PLAIN, 1, 100, OLD + 5, 2, 200);
    x.set(1, 4, 0);
    x.set(0, 2, 55);
    x.set(1, 3, 11);
    due("image()", x.image(), 2);
    x.shower(PLAIN, 0, 0);
    x.force(0);
    for (int who = 0; who < 2; who++) {
      for (int what = 0; what < 4; what++) x.set(who, what, 4);
      x.set(who, 4, 1);
    }
    x.set(0, 4, 0);
    due("back()", x.back(), 2);
    int[][] want = {{1, 100, 55, 8, 1, 0, 0, 50}, {2, 200, 0, 11, 0, 5, 5, 30}};
    for (int who = 0; who < 2; who++) {
      for (int what = 0; what < 8; what++) due("told(" + who + ", " + what + ")", x.told(who, what), want[who][what]);
    }
    due("count(0)", x.count(0), 2);
    due("count(1)", x.count(1), 1);
    due("count(3)", x.count(3), 1);
    sentence("IMAGE: it does not keep texts, the tape, sheets");
    text(x, "turns 9" + REST);
    tape(x, "xy");
    row(x, 3, 1, 9, 8);
    x.back();
    due("count(2)", x.count(2), 3);
    due("count(4)", x.count(4), 2);
    due("cell(3, 1, 0)", x.cell(3, 1, 0), 1);
  }

  private static void sheets() {
    sentence("SHEETS: 0 to 3, missing at first");
    TooHotTooCold x = with(PLAIN, 0, 0);
    for (int s = 0; s < 4; s++) {
      due("judge(" + s + ", 0)", x.judge(s, 0), -11);
      due("cell(" + s + ", 0, 0)", x.cell(s, 0, 0), -11);
    }
    due("sheet 4", x.sheet(4, 0, 1), -2);
    due("sheet -1", x.sheet(-1, 0, 1), -2);
    sentence("SHEETS: of sort 0, 1, 2, none at least, 40 at most");
    for (int sort = 0; sort < 3; sort++) {
      due("none", x.sheet(0, sort, 0), 1);
      due("40", x.sheet(0, sort, 40), 1);
      due("41", x.sheet(0, sort, 41), -2);
      due("-1", x.sheet(0, sort, -1), -14);
    }
    due("sort 3", x.sheet(0, 3, 1), -2);
    due("sort -2", x.sheet(0, -2, 1), -2);
    sentence("SHEETS: each is a row of its own");
    for (int s = 0; s < 4; s++) row(x, s, 2, s, s);
    for (int s = 0; s < 4; s++) {
      sets(x, s);
      for (int other = 0; other < 4; other++) due("judge(" + other + ", 0)", x.judge(other, 0), s != other ? 0 : s == 0 ? -1 : 1);
    }
  }

  private static void refusals() {
    sentence("REFUSALS: NONE, BAD, STATE, FULL, NO");
    due("NONE", TooHotTooCold.NONE, -1);
    due("BAD", TooHotTooCold.BAD, -2);
    due("STATE", TooHotTooCold.STATE, -3);
    due("FULL", TooHotTooCold.FULL, -4);
    due("NO", TooHotTooCold.NO, -4611686018427387904L);
    sentence("REFUSALS: NONE, there is no such thing");
    TooHotTooCold x = under("turns (beat=0)*8" + REST, PLAIN, 0, 17);
    due("line", x.line(0, 0), TooHotTooCold.NONE);
    due("soon", x.soon(0, 0, 0), TooHotTooCold.NONE);
    due("off", new TooHotTooCold().off(0), TooHotTooCold.NONE);
    sentence("REFUSALS: STATE, FULL");
    due("back", x.back(), TooHotTooCold.STATE);
    for (int i = 0; i < 3; i++) x.shower(0, 0, 0);
    due("shower", x.shower(0, 0, 0), TooHotTooCold.FULL);
  }

  // ---- what it is

  private static void manyCalls() {
    sentence("What it is: an object is used for at most 512 calls: the last answers as the first");
    TooHotTooCold x = with(PLAIN, 1, 60, SHARED + 3, 2, 80, NOTCHED + 4, 0, 75, BOILER + 2, 1, 300);
    int first = x.leave(3, 1), even = x.even(0, 3, 1), card = x.card(1);
    for (int call = 4 + 3; call < 509; call++) due("call " + call, x.leave(3, 1), first);
    due("call 509", x.even(0, 3, 1), even);
    due("call 510", x.card(1), card);
    due("call 511", x.set(0, 2, 5), 0);
    due("call 512", x.told(0, 2), 5);
    sentence("What it is: 512 bytes of texts, one by one");
    TooHotTooCold y = new TooHotTooCold();
    int calls = 0;
    for (int t = 0; t < 3; t++) {
      for (int i = 0; i < 160; i++, calls++) due("feed", y.feed(1, 32, 0, 0, 0, 0), i + 1);
      due("text()", y.text(), -260);
      calls++;
    }
    for (; calls < 511; calls++) due("back", y.back(), -3);
    due("call 512", y.count(4), 0);
    sentence("What it is: an image kept and gone back to, 512 times");
    TooHotTooCold z = new TooHotTooCold();
    for (int call = 1; call < 512; call += 3) {
      due("image", z.image(), 0);
      due("shower", z.shower(0, 0, 0), 0);
      due("back", z.back(), 0);
    }
  }

  /** All objects of one run live in one room. */
  private static void manyObjects() {
    sentence("What it is: many objects, each by itself");
    TooHotTooCold[] all = new TooHotTooCold[500];
    for (int i = 0; i < all.length; i++) {
      all[i] = with(PLAIN, 0, i);
      all[i].set(0, 2, i);
    }
    for (int i = 0; i < all.length; i++) {
      due("told", all[i].told(0, 1), i);
      due("cost", all[i].house(0), 0);
    }
  }
}
