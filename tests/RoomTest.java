import java.lang.reflect.Array;
import java.lang.reflect.Field;
import java.lang.reflect.Method;
import java.lang.reflect.Modifier;
import java.util.Collections;
import java.util.IdentityHashMap;
import java.util.Set;

/** LANGUAGE.md, rule 12: what an object holds is small, and no call but text() makes anything. */
public final class RoomTest {
  private static final int MOST_OBJECTS = 120, MOST_PARTS = 4000, CALLS = 2000;
  private static int wrong = 0;
  private static int objects = 0;
  private static int parts = 0;

  private interface Call {
    long on(TooHotTooCold x);
  }

  public static void main(String[] args) throws Exception {
    TooHotTooCold x = full();
    count(x, Collections.newSetFromMap(new IdentityHashMap<>()));
    if (objects > MOST_OBJECTS || parts > MOST_PARTS) wrongIs("rule 12: an object is " + objects + " objects with " + parts + " parts");
    made();
    System.out.println(wrong == 0 ? "the room is kept" : wrong + " things are too large");
    if (wrong != 0) System.exit(1);
  }

  private static void wrongIs(String what) {
    wrong++;
    System.out.println(what);
  }

  private static TooHotTooCold full() {
    TooHotTooCold x = new TooHotTooCold();
    for (int k : new int[] {1, 13, 24, 32}) x.shower(k, k % 5, 10 * k);
    for (int t = 0; t < 5; t++) {
      for (char c : ("turns cold+" + t + ";costs 1;yells 0;").toCharArray()) x.feed(1, c, 0, 0, 0, 0);
      x.text();
    }
    for (int s = 0; s < 4; s++) x.sheet(s, 2, 40);
    x.film(0, 0, 30);
    x.image();
    return x;
  }

  /** All objects and arrays that can be reached, and their fields and elements. */
  private static void count(Object o, Set<Object> seen) throws Exception {
    if (o == null || o instanceof String || !seen.add(o)) return;
    objects++;
    Class<?> c = o.getClass();
    if (c.isArray()) {
      parts += Array.getLength(o);
      if (c.getComponentType().isPrimitive()) return;
      for (int i = 0; i < Array.getLength(o); i++) count(Array.get(o, i), seen);
      return;
    }
    for (Field f : c.getDeclaredFields()) {
      if (Modifier.isStatic(f.getModifiers())) continue;
      parts++;
      if (f.getType().isPrimitive()) continue;
      f.setAccessible(true);
      count(f.get(o), seen);
    }
  }

  private static void made() throws Exception {
    Method bytes = allocated();
    if (bytes == null) return;
    Object threads = Class.forName("java.lang.management.ManagementFactory").getMethod("getThreadMXBean").invoke(null);
    Call[] calls = {
      x -> x.count(1), x -> x.feed(1, 32, 0, 0, 0, 0), x -> x.text(), x -> x.force(1), x -> x.asks(0, 5, 5, 5, 1), x -> x.shower(0, 0, 0),
      x -> x.set(0, 2, 5), x -> x.told(0, 7), x -> x.at(0, 9, 1), x -> x.day(0, 0), x -> x.rests(0, 9), x -> x.sways(0), x -> x.house(2),
      x -> x.pass(3), x -> x.best(0, 0), x -> x.line(0, 9), x -> x.soon(0, 9, 0), x -> x.card(0), x -> x.even(0, 1, 0), x -> x.hurts(0, 1),
      x -> x.off(0), x -> x.stills(0), x -> x.leave(0, 0), x -> x.judge(0, 0), x -> x.whose(0), x -> x.fits(0, 0, 1), x -> x.kinds(0, 0, 1),
      x -> x.laws(0, 0), x -> x.film(1, 0, 30), x -> x.criers(0), x -> x.heard(0, 0), x -> x.drawn(5, 0), x -> x.odds(5, 3, 9, 0),
      x -> x.image(), x -> x.back(), x -> x.sheet(2, 2, 40), x -> x.cell(2, 3, 4), x -> x.copy(2, 0, 2, 1, 30), x -> x.showersBy(2, 2, 0, 4),
      x -> x.taken(0, 0),
    };
    TooHotTooCold x = full();
    for (int i = 0; i < calls.length; i++) {
      int times = i == 22 ? CALLS / 20 : CALLS / 4;
      calls[i].on(x);
      bytes.invoke(threads);
      long before = (Long) bytes.invoke(threads);
      for (int k = 0; k < times; k++) calls[i].on(x);
      long made = (Long) bytes.invoke(threads) - before;
      if (made > 16L * times) wrongIs("rule 12: call " + i + " of the face made " + made + " bytes in " + times + " calls");
    }
  }

  /** null, if this machine doesn't count. */
  private static Method allocated() {
    try {
      return Class.forName("com.sun.management.ThreadMXBean").getMethod("getCurrentThreadAllocatedBytes");
    } catch (ReflectiveOperationException e) {
      return null;
    }
  }
}
