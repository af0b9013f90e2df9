import java.lang.reflect.Constructor;
import java.lang.reflect.Field;
import java.lang.reflect.Method;
import java.lang.reflect.Modifier;
import java.nio.file.Files;
import java.nio.file.Path;
import java.util.ArrayList;
import java.util.Arrays;
import java.util.HashSet;
import java.util.List;
import java.util.Set;
import java.util.TreeSet;
import java.util.regex.Matcher;
import java.util.regex.Pattern;

/** What can be told of ../shared/LANGUAGE.md by looking at the file and at the compiled class. */
public final class LanguageTest {
  private static final String FACE = "count(int) feed(int,int,int,int,int,int) text() force(int) asks(int,int,int,int,int) "
      + "shower(int,int,int) set(int,int,int) told(int,int) at(int,int,int) day(int,int) rests(int,int) sways(int) house(int) "
      + "pass(int) best(int,int) line(int,int) soon(int,int,int) card(int) even(int,int,int) hurts(int,int) off(int) stills(int) "
      + "leave(int,int) judge(int,int) whose(int) fits(int,int,int) kinds(int,int,int) laws(int,int) film(int,int,int) "
      + "criers(int) heard(int,int) drawn(int,int) odds(int,int,int,int) image() back() sheet(int,int,int) cell(int,int,int) "
      + "copy(int,int,int,int,int) showersBy(int,int,int,int) taken(int,int)";
  private static int wrong = 0;

  public static void main(String[] args) throws Exception {
    String text = Files.readString(Path.of("src/main/java/TooHotTooCold.java"));
    words(text);
    lengths(text);
    face();
    List<Class<?>> classes = new ArrayList<>();
    classes.add(TooHotTooCold.class);
    classes.addAll(Arrays.asList(TooHotTooCold.class.getDeclaredClasses()));
    wrongIf(classes.size() > 12, "rule 11: more than twelve classes");
    for (Class<?> c : classes) members(c);
    System.out.println(wrong == 0 ? "the language is kept" : wrong + " rules are broken");
    if (wrong != 0) System.exit(1);
  }

  private static void wrongIf(boolean broken, String what) {
    if (!broken) return;
    wrong++;
    System.out.println(what);
  }

  private static void words(String text) {
    wrongIf(!text.chars().allMatch(c -> c == '\n' || c >= 32 && c < 127), "rule 4: a sign that is not plain");
    String code = text.replaceAll("(?s)/\\*.*?\\*/", " ").replaceAll("//[^\n]*", " ").replaceAll("\"[^\"\n]*\"", "\"\"");
    for (String word : new String[] {"throw", "throws", "try", "catch", "finally", "synchronized", "assert", "instanceof", "package",
        "native", "volatile", "transient", "strictfp", "var", "yield", "Object", "System\\.(?!arraycopy)", "MAX_VALUE", "MIN_VALUE",
        "\\w+Exact", "equals", "hashCode", "toString", "Random", "Thread", "protected"}) {
      wrongIf(Pattern.compile("\\b" + word + "\\b").matcher(code).find(), "rules 1, 3, 4, 6, 13: the word " + word);
    }
    wrongIf(code.contains("->") || code.contains("::") || code.contains("@"), "rule 2: a lambda, a method reference, an annotation");
    wrongIf(code.contains("\"\" +") || code.contains("+ \"\""), "rule 10: a text joined by +");
    wrongIf(Pattern.compile("while \\(true\\)|for \\(;;|for \\([^;]*; *;").matcher(code).find(), "rule 9: a loop without an end");
    wrongIf(Pattern.compile("(?<!if )(?<!switch )(?<!\\w)\\((?!(int|long|short|byte|char)\\))[A-Z]?\\w+\\) ?[a-zA-Z]").matcher(code).find(), "rule 6: a cast of an object");
    Matcher imports = Pattern.compile("import ([^;]+);").matcher(code);
    while (imports.find()) {
      wrongIf(!imports.group(1).equals("java.util.Arrays"), "rule 4: import " + imports.group(1));
    }
    Matcher calls = Pattern.compile("\\b(Math|Arrays|Integer|Long|System)\\.(\\w+)").matcher(code);
    Set<String> known = new HashSet<>(Arrays.asList("Math.abs", "Math.max", "Math.min", "Arrays.copyOf", "Arrays.fill", "Integer.bitCount",
        "System.arraycopy"));
    while (calls.find()) wrongIf(!known.contains(calls.group()), "rule 4: a call of " + calls.group());
  }

  /** A method begins in a line that ends with { behind ) and ends at the } that stands as far in. */
  private static void lengths(String text) {
    String[] lines = text.split("\n");
    for (int i = 0; i < lines.length; i++) {
      wrongIf(lines[i].length() > 130, "line " + (i + 1) + " is too long");
      Matcher m = Pattern.compile("^( {4}| {8})(public |private )?(static )?[\\w\\[\\]]+ ?\\w*\\([^;]*\\) \\{$").matcher(lines[i]);
      if (!m.find() || lines[i].trim().startsWith("if") || lines[i].trim().startsWith("for")) continue;
      int end = i;
      while (end < lines.length - 1 && !lines[end].equals(m.group(1) + "}")) end++;
      wrongIf(end - i > 60, "rule 11: the method at line " + (i + 1) + " has " + (end - i) + " lines");
    }
  }

  private static String told(Method m) {
    StringBuilder b = new StringBuilder(m.getName()).append('(');
    for (Class<?> p : m.getParameterTypes()) b.append(b.charAt(b.length() - 1) == '(' ? "" : ",").append(p.getName());
    return b.append(')').toString();
  }

  private static void face() {
    Class<?> c = TooHotTooCold.class;
    wrongIf(!Modifier.isFinal(c.getModifiers()) || !Modifier.isPublic(c.getModifiers()), "rule 1: the class is not public and final");
    Set<String> methods = new TreeSet<>();
    for (Method m : c.getDeclaredMethods()) {
      if (Modifier.isPrivate(m.getModifiers())) continue;
      wrongIf(!Modifier.isPublic(m.getModifiers()) || Modifier.isStatic(m.getModifiers()), "rule 1: the face's " + m.getName());
      wrongIf(m.getReturnType() != (m.getName().equals("odds") ? long.class : int.class), "rule 1: what " + m.getName() + " answers");
      methods.add(told(m));
    }
    wrongIf(!methods.equals(new TreeSet<>(Arrays.asList(FACE.split(" ")))), "rule 1: the face's methods are " + methods);
    Set<String> fields = new TreeSet<>();
    for (Field f : c.getDeclaredFields()) {
      if (!Modifier.isPrivate(f.getModifiers())) fields.add(f.toString());
    }
    Set<String> due = new TreeSet<>();
    for (String f : "int NONE,int BAD,int STATE,int FULL,long NO".split(",")) {
      due.add("public static final " + f.replace(" ", " TooHotTooCold."));
    }
    wrongIf(!fields.equals(due), "rule 1: the face's fields are " + fields);
    Constructor<?>[] made = c.getDeclaredConstructors();
    wrongIf(made.length != 1 || made[0].getParameterCount() != 0 || !Modifier.isPublic(made[0].getModifiers()), "rule 1: the constructors");
  }

  private static void members(Class<?> c) {
    Set<String> face = new HashSet<>();
    for (String m : FACE.split(" ")) face.add(m.substring(0, m.indexOf('(')));
    boolean inside = c != TooHotTooCold.class;
    wrongIf(inside && !Modifier.isStatic(c.getModifiers()), "rule 2: " + c + " is not static");
    wrongIf(c.getDeclaredClasses().length > 0 && inside, "rule 2: " + c + " has classes inside");
    int fields = 0;
    for (Field f : c.getDeclaredFields()) {
      boolean fixed = Modifier.isStatic(f.getModifiers());
      Class<?> kind = f.getType();
      wrongIf(fixed && !kind.isPrimitive() && kind != String.class && kind != int[].class, "rule 5: " + f + " is no constant");
      wrongIf(kind == float.class || kind == double.class, "rule 3: " + f + " is no whole number");
      wrongIf(fixed && !Modifier.isFinal(f.getModifiers()), "rule 5: " + f + " is static, not final");
      if (!fixed) fields++;
    }
    wrongIf(fields > 20, "rule 11: " + c + " has " + fields + " fields");
    for (Method m : c.getDeclaredMethods()) {
      boolean asked = !inside && Modifier.isPublic(m.getModifiers());
      wrongIf(!asked && face.contains(m.getName()), "rule 1: " + m + " bears a public method's name");
      wrongIf(m.getParameterCount() > 7, "rule 11: " + m + " takes too much");
    }
  }
}
