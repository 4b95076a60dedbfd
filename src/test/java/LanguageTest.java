import java.io.IOException;
import java.lang.reflect.Constructor;
import java.lang.reflect.Field;
import java.lang.reflect.Method;
import java.lang.reflect.Modifier;
import java.nio.file.Files;
import java.nio.file.Path;
import java.util.ArrayList;
import java.util.List;
import java.util.Set;
import java.util.TreeSet;
import java.util.regex.Matcher;
import java.util.regex.Pattern;

/** The face of the document, and the rules of LANGUAGE.md that a look at the text and the class can tell. */
public final class LanguageTest {
  private static int wrong = 0;

  private static final String[] FACE = {
    "int row(int,int,int)", "int set(int,int,long)", "int copy(int,int,int,int,int)", "long element(int,int)",
    "int holds(int)", "int tool(int,int,int,int)", "int says(int,int)", "int tries(int,int,int)", "int shoes(int,int)",
    "int feed(int,int)", "int wipe()", "int valley()", "int valleyOf(int,int)", "int footOf(int,int,int)",
    "int lastOf(int,int,int)", "int feet(int,int)", "int alter(int,int,int,int)", "int carve(int,int,int,int)",
    "int build(int,int,int)", "int year(int)", "int does(int,int,int)", "int bad(int,int,int)", "int whose(int,int,int)",
    "int total(int,int)", "int out(int,int)", "int judge(int,int,int)", "int best(int,int)", "int more(int,int)",
    "int enough(int,int)", "int changed(int,int)", "int bound(int)", "int fair(int,int)", "int shod(int,int)",
    "int line(int,int,int,int)", "int corners(int)", "int corner(int,int)", "int keeps(int,int,int)",
    "int lend(int,int,int,int)", "int doubt(int,int)", "int idle(int)", "int begin(int,int)", "int step(int)",
    "int search(int)", "int image()", "int back()", "int status(int)"};

  private static void must(boolean so, String what) {
    if (!so) {
      wrong++;
      System.out.println(what);
    }
  }

  private static String told(Method m) {
    List<String> types = new ArrayList<>();
    for (Class<?> t : m.getParameterTypes()) types.add(t.getName());
    return m.getReturnType().getName() + " " + m.getName() + "(" + String.join(",", types) + ")";
  }

  private static void face() {
    Class<?> k = NineLasts.class;
    must(Modifier.isPublic(k.getModifiers()) && Modifier.isFinal(k.getModifiers()), "the class is public and final");
    Set<String> due = new TreeSet<>(List.of(FACE));
    Set<String> names = new TreeSet<>();
    Set<String> got = new TreeSet<>();
    for (Method m : k.getDeclaredMethods()) {
      if (Modifier.isPrivate(m.getModifiers()) || m.isSynthetic()) continue;
      got.add(told(m));
      names.add(m.getName());
      must(Modifier.isPublic(m.getModifiers()) && !Modifier.isStatic(m.getModifiers()), m + " is not of the face");
    }
    must(due.equals(got), "the face is " + got);
    for (Class<?> c : all())
      for (Method m : c.getDeclaredMethods())
        must(Modifier.isPublic(m.getModifiers()) || !names.contains(m.getName()), m + " has a public one's name");
    Constructor<?>[] made = k.getDeclaredConstructors();
    must(made.length == 1 && Modifier.isPublic(made[0].getModifiers()) && made[0].getParameterCount() == 0, "one constructor");
    for (Field f : k.getDeclaredFields()) {
      boolean isNone = f.getName().equals("NONE");
      must(Modifier.isPrivate(f.getModifiers()) || isNone, f + " is not private");
    }
    must(NineLasts.NONE == -1, "NONE is -1");
  }

  private static List<Class<?>> all() {
    List<Class<?>> all = new ArrayList<>(List.of(NineLasts.class.getDeclaredClasses()));
    all.add(NineLasts.class);
    return all;
  }

  private static void classes() {
    must(all().size() <= 12, "at most twelve classes");
    for (Class<?> c : all()) {
      int fields = 0;
      for (Field f : c.getDeclaredFields()) {
        boolean isStatic = Modifier.isStatic(f.getModifiers());
        must(!isStatic || Modifier.isFinal(f.getModifiers()), f + " is static and not final");
        if (!isStatic) fields++;
      }
      must(fields <= 20, c + " has " + fields + " fields");
      must(c == NineLasts.class || Modifier.isStatic(c.getModifiers()), c + " is not static");
      must(c.getDeclaredClasses().length == 0 || c == NineLasts.class, c + " has classes inside");
      for (Method m : c.getDeclaredMethods()) must(m.getParameterCount() <= 7, m + " takes too many");
    }
  }

  private static String bare(String text) {
    return text.replaceAll("(?s)/\\*.*?\\*/", "").replaceAll("//[^\n]*", "")
        .replaceAll("\"[^\"\n]*\"", "\"\"").replaceAll("'[^'\n]+'", "'x'");
  }

  private static void text(Path root) throws IOException {
    String text = Files.readString(root.resolve("src/main/java/NineLasts.java"));
    must(text.chars().allMatch(c -> c < 128), "a sign above 127");
    String bare = bare(text);
    String[] never = {"\\bthrow\\b", "\\bthrows\\b", "\\btry\\b", "\\bcatch\\b", "\\bsynchronized\\b", "\\bassert\\b",
      "->", "::", "\\bpackage\\b", "\\bprotected\\b", "\\bequals\\b", "\\bhashCode\\b", "\\btoString\\b", "Exact\\b",
      "\\bvar\\b", "\\bthread\\b", "\\bRandom\\b", "\\bStream\\b", "\\bnative\\b", "\\bvolatile\\b", "\\bSystem\\.(?!arraycopy)",
      "\\bdouble\\b", "\\bfloat\\b", "\\bstatic \\{", "\"\" *\\+", "\\+ *\"\""};
    for (String n : never) must(!Pattern.compile(n).matcher(bare).find(), "the text has " + n);
    Matcher imports = Pattern.compile("\\bimport ([^;]*);").matcher(bare);
    while (imports.find()) must(imports.group(1).equals("java.util.Arrays"), "imports " + imports.group(1));
    Matcher calls = Pattern.compile("\\b(Arrays|Math|Integer|Long|String)\\.(\\w+)").matcher(bare);
    Set<String> allowed = Set.of("Arrays.fill", "Arrays.copyOf", "Arrays.copyOfRange", "Math.min", "Math.max", "Math.abs",
        "Integer.bitCount");
    while (calls.find()) must(allowed.contains(calls.group()), "uses " + calls.group());
    lengths(bare);
  }

  private static void lengths(String bare) {
    String[] lines = bare.split("\n");
    int start = -1;
    String close = "";
    for (int i = 0; i < lines.length; i++) {
      if (start < 0 && lines[i].matches("( {4}| {8})\\S[^;=]*\\) \\{")) {
        start = i;
        close = lines[i].replaceAll("\\S.*", "") + "}";
      } else if (start >= 0 && lines[i].equals(close)) {
        must(i - start < 60, "long: " + lines[start].trim());
        start = -1;
      }
    }
  }

  public static void main(String[] args) throws IOException {
    face();
    classes();
    text(Path.of(args.length > 0 ? args[0] : "."));
    System.out.println(wrong == 0 ? "LanguageTest: the rules are kept" : "LanguageTest: " + wrong + " wrong");
    if (wrong != 0) System.exit(1);
  }
}
