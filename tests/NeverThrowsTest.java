import java.lang.reflect.InvocationTargetException;
import java.lang.reflect.Method;
import java.lang.reflect.Modifier;
import java.util.ArrayList;
import java.util.Arrays;
import java.util.Comparator;
import java.util.List;
import java.util.Random;

/** LANGUAGE.md, rule 7: no call throws, for any arguments in any state. */
public final class NeverThrowsTest {
  private static final int MIN = Integer.MIN_VALUE, MAX = Integer.MAX_VALUE;
  private static final int[] NUMBERS = {MIN, MIN + 1, -65536, -1, 0, 1, 2, 3, 5, 30, 40, 999, 65536, MAX - 2, MAX};
  private static final int MOST_TRIED = 20000;
  private static int wrong = 0;

  public static void main(String[] args) throws IllegalAccessException {
    List<Method> face = new ArrayList<>();
    for (Method m : TooHotTooCold.class.getDeclaredMethods()) {
      if (Modifier.isPublic(m.getModifiers())) face.add(m);
    }
    face.sort(Comparator.comparing(Method::getName));
    for (Method m : face) {
      for (int house = 0; house < 3; house++) everyNumber(m, house);
    }
    byLot(face);
    System.out.println(wrong == 0 ? "nothing throws" : wrong + " calls threw");
    if (wrong != 0) System.exit(1);
  }

  private static TooHotTooCold make(int house) {
    TooHotTooCold x = new TooHotTooCold();
    if (house == 0) return x;
    for (int i = 0; i < (house == 1 ? 2 : 4); i++) x.shower(11 * i + 9, i, 250 * i);
    for (int s = 0; s < 4; s++) x.sheet(s, s % 3, house == 1 ? s : 40);
    for (char c : "turns cold*was;costs -set;yells 9999*9999*9999;".toCharArray()) x.feed(1, c, 0, 0, 0, 0);
    x.text();
    x.force(1);
    x.image();
    return x;
  }

  /** Each argument is each of the numbers; of many arguments as many tries as come first in a fixed lot. */
  private static void everyNumber(Method m, int house) throws IllegalAccessException {
    int arguments = m.getParameterCount();
    long all = 1;
    for (int i = 0; i < arguments; i++) all *= NUMBERS.length;
    Random lot = new Random(arguments);
    TooHotTooCold x = make(house);
    for (long k = 0; k < all && k < MOST_TRIED; k++) {
      if (k % 400 == 399) x = make(house);
      long code = all <= MOST_TRIED ? k : lot.nextLong() >>> 1;
      Object[] a = new Object[arguments];
      for (int i = 0; i < arguments; i++, code /= NUMBERS.length) a[i] = NUMBERS[(int) (code % NUMBERS.length)];
      call(x, m, a);
    }
  }

  private static void byLot(List<Method> face) throws IllegalAccessException {
    Random lot = new Random(512);
    for (int run = 0; run < 60; run++) {
      TooHotTooCold x = make(run % 3);
      for (int k = 0; k < 450; k++) {
        Method m = face.get(lot.nextInt(face.size()));
        Object[] a = new Object[m.getParameterCount()];
        for (int i = 0; i < a.length; i++) a[i] = lot.nextInt(9) == 0 ? lot.nextInt() : lot.nextInt(4) == 0 ? lot.nextInt(129) : lot.nextInt(5);
        call(x, m, a);
      }
    }
  }

  private static void call(TooHotTooCold x, Method m, Object[] arguments) throws IllegalAccessException {
    try {
      m.invoke(x, arguments);
    } catch (InvocationTargetException e) {
      wrong++;
      if (wrong < 20) System.out.println("rule 7: " + m.getName() + Arrays.toString(arguments) + " threw " + e.getCause());
    }
  }
}
