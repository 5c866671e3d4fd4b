import java.lang.management.ManagementFactory;
import java.lang.reflect.Constructor;
import java.lang.reflect.Field;
import java.lang.reflect.Method;
import java.lang.reflect.Modifier;
import java.nio.file.Files;
import java.nio.file.Path;
import java.util.ArrayList;
import java.util.HashSet;
import java.util.List;
import java.util.Set;
import java.util.TreeSet;
import java.util.regex.Matcher;
import java.util.regex.Pattern;

/** The rules of LANGUAGE.md that a program can look after: the face, the words, the room. */
public final class NobodySaidLanguage {
  private static final String FACE = "list 3,listed 1,person 2,saying 3,of 2,change 3,ofSaying 2,alter 3,from 2,traced 2,"
      + "talk 2,go 1,now 1,ahead 3,spread 2,when 2,blamed 2,fund 1,beginner 2,kindFor 2,trustFor 3,weightFor 2,hush 3,"
      + "fits 2,kinds 2,evening 1,odds 4,seed 1,feed 2,wipe 0,text 0,hold 2,as 2,sheet 3,write 3,copy 5,load 1,judge 1,"
      + "image 0,undo 0,tear 0,count 1,status 1";
  private static int wrong = 0;

  private static void need(boolean ok, String what) {
    if (!ok) { wrong++; System.out.println("not so: " + what); }
  }

  private static void face() {
    Set<String> due = new TreeSet<>(List.of(FACE.split(",")));
    Set<String> got = new TreeSet<>();
    Set<String> names = new HashSet<>();
    for (Method m : NobodySaid.class.getDeclaredMethods()) {
      if (Modifier.isPrivate(m.getModifiers())) continue;
      got.add(m.getName() + " " + m.getParameterCount());
      names.add(m.getName());
      need(Modifier.isPublic(m.getModifiers()) && !Modifier.isStatic(m.getModifiers()), m + " is public and no static one");
      need(m.getReturnType() == (m.getName().equals("odds") ? long.class : int.class), m + " answers its type");
      for (Class<?> p : m.getParameterTypes()) need(p == int.class, m + " takes ints");
    }
    need(due.equals(got), "the face is the document's: " + got);
    for (Constructor<?> c : NobodySaid.class.getDeclaredConstructors()) {
      need(Modifier.isPublic(c.getModifiers()) && c.getParameterCount() == 0, "one public constructor");
    }
    int mods = NobodySaid.class.getModifiers();
    need(Modifier.isPublic(mods) && Modifier.isFinal(mods), "the class is public and final");
    List<Class<?>> all = new ArrayList<>(List.of(NobodySaid.class.getDeclaredClasses()));
    need(all.size() < 12, "at most twelve classes");
    all.add(NobodySaid.class);
    for (Class<?> c : all) members(c, names);
  }

  private static void members(Class<?> c, Set<String> faceNames) {
    boolean inside = c != NobodySaid.class;
    if (inside) need(Modifier.isStatic(c.getModifiers()) && !Modifier.isPublic(c.getModifiers()), c + " is static and hidden");
    int fields = 0;
    for (Field f : c.getDeclaredFields()) {
      if (Modifier.isStatic(f.getModifiers())) need(Modifier.isFinal(f.getModifiers()), f + " is final");
      else fields++;
      if (!inside) need(Modifier.isPrivate(f.getModifiers()), f + " is private");
    }
    need(fields <= 20, c + " has at most twenty fields");
    for (Method m : c.getDeclaredMethods()) {
      need(m.getParameterCount() <= 7, m + " takes at most seven");
      if (inside || Modifier.isPrivate(m.getModifiers())) need(!faceNames.contains(m.getName()), m + " has a name of its own");
    }
  }

  private static void words() throws Exception {
    String source = Files.readString(Path.of("src/main/java/NobodySaid.java"));
    need(source.chars().allMatch(ch -> ch < 128), "plain signs alone");
    String code = source.replaceAll("(?s)/\\*.*?\\*/", "").replaceAll("//[^\n]*", "").replaceAll("\"[^\"\n]*\"", "\"\"");
    Matcher m = Pattern.compile("\\b(throw|throws|try|catch|synchronized|assert|package|Object|Exception|Exact|System\\.(?!arraycopy)\\w+|"
        + "Arrays\\.(?!fill|copyOf)\\w+|protected|volatile|transient|native|var|hashCode|toString)\\b|->|::|Exact\\b").matcher(code);
    while (m.find()) need(false, "no '" + m.group() + "' in the program");
    Matcher i = Pattern.compile("import ([^;]*);").matcher(code);
    while (i.find()) need(i.group(1).equals("java.util.Arrays"), "no import of " + i.group(1));
    lengths(code);
  }

  /** A method begins at a line that ends in "{" and stands at the depth of a class's member. */
  private static void lengths(String code) {
    int begin = 0, depth = 0, number = 0, memberDepth = 1;
    for (String line : code.split("\n")) {
      number++;
      if (line.contains(" class ")) memberDepth = depth + 1;
      else if (line.endsWith("{") && depth == memberDepth) begin = number;
      depth += line.chars().map(ch -> ch == '{' ? 1 : ch == '}' ? -1 : 0).sum();
      if (depth == memberDepth && begin > 0) {
        need(number - begin < 60, "the method at line " + begin + " is short");
        begin = 0;
      }
      if (depth < memberDepth) memberDepth = Math.max(1, depth);
    }
  }

  /** Calls keep to the rows that the constructor made. */
  private static void room() {
    com.sun.management.ThreadMXBean bean = (com.sun.management.ThreadMXBean) ManagementFactory.getThreadMXBean();
    long me = Thread.currentThread().getId();
    NobodySaid x = new NobodySaid();
    dearCalls(x);
    long before = bean.getThreadAllocatedBytes(me);
    for (int i = 0; i < 10; i++) dearCalls(x);
    long used = bean.getThreadAllocatedBytes(me) - before;
    need(used < 20000, "calls make next to nothing: " + used + " bytes");
    before = bean.getThreadAllocatedBytes(me);
    for (int i = 0; i < 100; i++) new NobodySaid();
    used = (bean.getThreadAllocatedBytes(me) - before) / 100;
    need(used < 10000, "an object is small: " + used + " bytes");
  }

  private static void dearCalls(NobodySaid x) {
    for (int i = 0; i < 8; i++) x.person(i % 7, i);
    for (int i = 0; i < 6; i++) x.saying(i, i, i);
    x.sheet(0, 8, 40);
    for (int i = 0; i < 40; i++) x.write(0, i, -1);
    for (int s = 0; s < 6; s++) {
      x.beginner(s, 60);
      x.kindFor(s, 60);
      x.trustFor(s, 7 - s, 60);
      x.weightFor(s, 60);
      x.hush(s, 7 - s, 20);
      x.fits(0, s);
      x.kinds(0, s);
      x.when(s, 7 - s);
      x.blamed(s, 9999);
    }
    x.feed(0x74616c6b, 4);
    x.feed(0x30203120, 4);
    x.feed(0x32, 1);
    x.text();
    x.image();
    x.evening(20);
    x.go(60);
    x.undo();
  }

  public static void main(String[] args) throws Exception {
    face();
    words();
    room();
    System.out.println(wrong == 0 ? "the rules are kept" : wrong + " rules are broken");
    if (wrong != 0) System.exit(1);
  }
}
