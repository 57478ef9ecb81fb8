import java.io.IOException;
import java.lang.reflect.Constructor;
import java.lang.reflect.Field;
import java.lang.reflect.Method;
import java.lang.reflect.Modifier;
import java.nio.file.Files;
import java.nio.file.Path;
import java.util.Arrays;
import java.util.Set;
import java.util.TreeSet;

/** The face of the class is the document's, and the file keeps to what LANGUAGE.md leaves. */
public final class FaceTest {
  private static final String[] FACE = {
    "int fountain(int,int)", "int fountainIs(int,int)", "int become(int,int)", "int as(int,int)",
    "int says(int,int)", "int goesOn(int,int)", "int pipe(int,int,int)", "int pipeIs(int,int)",
    "int turn(int,int)", "int freeze(int)", "int feed(long,int)", "int text(int)", "int untell(int)",
    "int law(int,int,int,int)", "int hears(int,int)", "int heard(int,int,int,int)", "int let(int,int)",
    "int days(int)", "int loose(int)", "int seed(int)", "int hush(int,int,int,int)",
    "int reach(int,int,int,int,int)", "int odds(int,int,int)", "int fits(int,int)",
    "int voice(int,int,int)", "int body(int)", "int sheet(int,int,int)", "int put(int,int,int)",
    "int move(int,int,int,int,int)", "int talks(int)", "int judge(int)", "int image()", "int restore()",
    "int tell(int)", "int check()", "int count(int)", "int told(int)"
  };

  /** What the interface says ahead of the calls, and how many of FACE stand below it. */
  private static final String[] SECTIONS = {
    "---- fountains, pipes", "---- texts", "---- what is heard", "---- keys, first sayings",
    "---- voices, sheets, images, what is told"
  };
  private static final int[] BELOW = {10, 4, 6, 4, 13};

  public static void main(String[] args) throws IOException {
    Checks.topic("the face");
    Class<?> c = FountainTalk.class;
    Checks.isTrue("public", Modifier.isPublic(c.getModifiers()));
    Checks.isTrue("final", Modifier.isFinal(c.getModifiers()));
    methods(c);
    for (Constructor<?> made : c.getDeclaredConstructors()) {
      Checks.isTrue("constructor " + made, made.getParameterCount() == 0 && Modifier.isPublic(made.getModifiers()));
    }
    for (Field field : c.getDeclaredFields()) {
      Checks.isTrue("private " + field.getName(), Modifier.isPrivate(field.getModifiers()));
    }
    statics(c);
    inside(c);
    source();
    sections();
    Checks.end();
  }

  /** The calls stand in the document's order, each below what the interface says ahead of it. */
  private static void sections() throws IOException {
    StringBuilder due = new StringBuilder();
    int call = 0;
    for (int i = 0; i < SECTIONS.length; i++) {
      due.append(SECTIONS[i]).append('\n');
      for (int n = 0; n < BELOW[i]; n++, call++) due.append(FACE[call].replaceAll("\\(.*", "")).append('\n');
    }
    StringBuilder got = new StringBuilder();
    for (String line : Files.readAllLines(Path.of("src/main/java/FountainTalk.java"))) {
      if (line.startsWith("  // ----")) got.append(line.substring(5)).append('\n');
      if (line.startsWith("  public int ")) got.append(line.substring(9).replaceAll("\\(.*", "")).append('\n');
    }
    Checks.isTrue("calls below what the interface says", got.toString().startsWith(due.toString()));
  }

  private static void methods(Class<?> c) {
    Set<String> open = new TreeSet<>();
    Set<String> names = new TreeSet<>();
    for (Method m : c.getDeclaredMethods()) {
      if (Modifier.isPrivate(m.getModifiers())) continue;
      Checks.isTrue("public " + m.getName(), Modifier.isPublic(m.getModifiers()));
      open.add(signature(m));
      names.add(m.getName());
    }
    Set<String> face = new TreeSet<>(Arrays.asList(FACE));
    for (String line : face) Checks.isTrue("has " + line, open.contains(line));
    for (String line : open) Checks.isTrue("is the document's: " + line, face.contains(line));
    for (Method m : c.getDeclaredMethods()) {
      Checks.isTrue("a private name of its own: " + m, !Modifier.isPrivate(m.getModifiers()) || !names.contains(m.getName()));
    }
  }

  private static String signature(Method m) {
    StringBuilder line = new StringBuilder();
    line.append(m.getReturnType()).append(' ').append(m.getName()).append('(');
    for (int i = 0; i < m.getParameterCount(); i++) {
      line.append(i == 0 ? "" : ",").append(m.getParameterTypes()[i]);
    }
    return line.append(')').toString();
  }

  private static void statics(Class<?> c) {
    for (Field field : c.getDeclaredFields()) {
      if (Modifier.isStatic(field.getModifiers())) {
        Checks.isTrue("final " + field, Modifier.isFinal(field.getModifiers()));
      }
    }
  }

  private static void inside(Class<?> c) {
    Checks.isTrue("at most eleven classes inside", c.getDeclaredClasses().length <= 11);
    for (Class<?> part : c.getDeclaredClasses()) {
      int is = part.getModifiers();
      Checks.isTrue("static " + part, Modifier.isStatic(is));
      Checks.isTrue("not open " + part, !Modifier.isPublic(is) && !Modifier.isProtected(is));
      statics(part);
      long fields = Arrays.stream(part.getDeclaredFields()).filter(f -> !Modifier.isStatic(f.getModifiers())).count();
      Checks.isTrue("some twenty fields in " + part, fields <= 20);
    }
  }

  private static void source() throws IOException {
    String code = Files.readString(Path.of("src/main/java/FountainTalk.java"));
    code = code.replaceAll("(?s)/\\*.*?\\*/", " ").replaceAll("//.*", " ");
    String[] ruledOut = {
      "throw", "throws", "try", "catch", "synchronized", "assert", "import", "package", "while\\s*\\(\\s*true",
      "->", "::", "Exact\\b", "hashCode", "toString", "\\bvar\\b", "\\bSystem\\.(?!arraycopy)", "\\bObject\\b", "volatile"
    };
    for (String word : ruledOut) {
      String form = Character.isLetter(word.charAt(0)) ? "\\b" + word + "\\b" : word;
      Checks.isTrue("no " + word, !java.util.regex.Pattern.compile(form).matcher(code).find());
    }
  }
}
