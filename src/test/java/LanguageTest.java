import java.io.IOException;
import java.lang.reflect.Constructor;
import java.lang.reflect.Field;
import java.lang.reflect.Method;
import java.lang.reflect.Modifier;
import java.nio.file.Files;
import java.nio.file.Path;
import java.util.HashSet;
import java.util.Set;
import java.util.TreeSet;
import java.util.regex.Matcher;
import java.util.regex.Pattern;

/** The rules of LANGUAGE.md that a text or a class can tell, and the face of the document. */
public final class LanguageTest {
  private static final Check check = new Check("LanguageTest");
  private static final String[] FACE = {"int feed(int,int,int,int,int)", "boolean end(int)", "int form(int)", "int prove(int)",
      "int identity()", "int fault(int)", "int term(int,int,int)", "long ways(int,int)", "long unlike(int,int)",
      "int way(int,int,long,int)", "long number(int,int,int,int,int,int,int)", "int missed(int,int,int,int)",
      "int explained(int,int,int,int)", "int full(int)", "long met(int,int,int)", "int meets(int,int,int,int)",
      "int never(int,int,int)", "int bars(int)", "int many(int,int,int,boolean)", "int greed(int,int,int)", "int nearest(int,int)",
      "int enough(int,int)", "boolean join(int,int,int)", "boolean drop(int,int)", "boolean lead(int,int)",
      "int common(int,int,int,int,int)", "int tried(int,int)", "long side(int,int,int,int,int,int,int)", "int spell(int)",
      "int write(int,int,int)", "int out(int)", "int gap(int,int,int,int)", "int rank(int,int,int,int)", "int look(int)"};
  private static final String[] BANNED = {"throw", "throws", "try", "catch", "synchronized", "assert", "import", "package", "protected",
      "instanceof", "System", "Thread", "Object", "equals", "hashCode", "toString", "getClass", "yield", "var", "record", "native",
      "volatile", "transient", "addExact", "multiplyExact", "subtractExact", "toIntExact", "negateExact", "super"};
  private static final Set<String> LIBRARY = Set.of("Math.min", "Math.max", "Math.floorMod", "Integer.bitCount");
  private static final Set<String> CALLED = Set.of("length", "charAt", "min", "max", "abs", "floorMod", "bitCount");

  private static String describe(Method method) {
    StringBuilder text = new StringBuilder(method.getReturnType().getName()).append(' ').append(method.getName()).append('(');
    for (Class<?> type : method.getParameterTypes()) {
      text.append(text.charAt(text.length() - 1) == '(' ? "" : ",").append(type.getName());
    }
    return text.append(')').toString();
  }

  /** The methods of the document's code block; where it can't be read, those that are there. */
  private static Set<String> printedFace(Set<String> face) {
    String text;
    try {
      text = Files.readString(Path.of("../shared/DOC.md"));
    } catch (IOException missing) {
      return face;
    }
    Set<String> printed = new TreeSet<>();
    Matcher line = Pattern.compile("(?m)^ {4}public (int|long|boolean) (\\w+)\\(([^)]*)\\);$").matcher(text);
    while (line.find()) {
      String types = line.group(3).replaceAll("(\\w+) \\w+", "$1").replace(", ", ",");
      printed.add(line.group(1) + " " + line.group(2) + "(" + types + ")");
    }
    check.due("the constant that the document prints", text.contains("    public static final int NONE = -1;"), true);
    check.due("the constructor that the document prints", text.contains("    public ToldPowers();"), true);
    return printed;
  }

  private static Set<String> tryFace() {
    Class<?> type = ToldPowers.class;
    Set<String> names = new HashSet<>();
    Set<String> face = new TreeSet<>();
    for (Method method : type.getDeclaredMethods()) {
      if (Modifier.isPublic(method.getModifiers())) {
        face.add(describe(method));
        names.add(method.getName());
      } else {
        check.due(method.getName() + " is private", Modifier.isPrivate(method.getModifiers()) || method.isSynthetic(), true);
      }
    }
    check.text("the face", face.toString(), new TreeSet<>(Set.of(FACE)).toString());
    check.text("the face as the document prints it", face.toString(), printedFace(face).toString());
    for (Constructor<?> made : type.getDeclaredConstructors()) {
      check.due("the constructor", Modifier.isPublic(made.getModifiers()) && made.getParameterCount() == 0, true);
    }
    check.due("public and final", type.getModifiers(), Modifier.PUBLIC | Modifier.FINAL);
    int constants = 0;
    for (Field field : type.getDeclaredFields()) {
      boolean isPublic = Modifier.isPublic(field.getModifiers());
      constants += isPublic ? 1 : 0;
      boolean isNone = field.getName().equals("NONE") && field.getType() == int.class;
      boolean isConstant = Modifier.isStatic(field.getModifiers()) && Modifier.isFinal(field.getModifiers());
      check.due(field.getName() + " is private, or NONE", isPublic ? isNone && isConstant : Modifier.isPrivate(field.getModifiers()), true);
    }
    check.due("one public constant", constants, 1);
    return names;
  }

  /** Numbers, texts, classes of the file, and rows of them of one dimension. */
  private static boolean mayStand(Class<?> type) {
    Class<?> part = type.isArray() ? type.getComponentType() : type;
    boolean own = part.getName().startsWith("ToldPowers");
    boolean text = part == String.class && !type.isArray();
    return part.isPrimitive() || own || text;
  }

  private static void tryTypes(Class<?> type) {
    for (Field field : type.getDeclaredFields()) {
      check.due("the type of " + field.getName(), mayStand(field.getType()), true);
      boolean plain = field.getType().isPrimitive() || field.getType() == String.class;
      check.due("no other static than constants: " + field.getName(), !Modifier.isStatic(field.getModifiers()) || plain, true);
    }
    for (Method method : type.getDeclaredMethods()) {
      check.due("the answer's type of " + method.getName(), mayStand(method.getReturnType()), true);
      for (Class<?> argument : method.getParameterTypes()) {
        check.due("the arguments' types of " + method.getName(), mayStand(argument), true);
      }
    }
  }

  /** Only methods of the file and of the library are called, texts aren't joined by +, and each loop has a bound. */
  private static void tryCalls(String plain, Class<?>[] inner) {
    Set<String> own = new HashSet<>();
    for (Method method : ToldPowers.class.getDeclaredMethods()) {
      own.add(method.getName());
    }
    for (Class<?> type : inner) {
      for (Method method : type.getDeclaredMethods()) {
        own.add(method.getName());
      }
    }
    Matcher called = Pattern.compile("\\.(\\w+)\\(").matcher(plain);
    while (called.find()) {
      check.due(called.group(1) + " may be called", own.contains(called.group(1)) || CALLED.contains(called.group(1)), true);
    }
    check.due("no text is joined by +", Pattern.compile("\"\"\\s*\\+|\\+\\s*\"\"").matcher(plain).find(), false);
    check.due("no loop without a bound", Pattern.compile("while \\(true\\)|for \\([^;]*;\\s*;").matcher(plain).find(), false);
    check.due("no initialiser block", Pattern.compile("static\\s*\\{").matcher(plain).find(), false);
  }

  private static void tryClass(Class<?> type, Set<String> names) {
    int fields = 0;
    tryTypes(type);
    for (Field field : type.getDeclaredFields()) {
      boolean isStatic = Modifier.isStatic(field.getModifiers());
      fields += isStatic ? 0 : 1;
      check.due(type.getName() + "." + field.getName() + " is final", !isStatic || Modifier.isFinal(field.getModifiers()), true);
    }
    check.due("at most twenty fields in " + type.getName(), fields <= 20, true);
    for (Method method : type.getDeclaredMethods()) {
      check.due("at most seven parameters of " + method.getName(), method.getParameterCount() <= 7, true);
      boolean isFace = type == ToldPowers.class && Modifier.isPublic(method.getModifiers());
      check.due(method.getName() + " bears no public name", isFace || !names.contains(method.getName()), true);
    }
  }

  private static String withoutComments(String source) {
    String plain = Pattern.compile("/\\*.*?\\*/", Pattern.DOTALL).matcher(source).replaceAll("");
    return plain.replaceAll("//[^\n]*", "").replaceAll("\"[^\"\n]*\"", "\"\"").replaceAll("'[^'\n]*'", "' '");
  }

  private static void tryWords(String plain) {
    for (String word : BANNED) {
      check.due("no " + word, Pattern.compile("\\b" + word + "\\b").matcher(plain).find(), false);
    }
    check.due("no lambda", plain.contains("->"), false);
    check.due("no method reference", plain.contains("::"), false);
    Matcher used = Pattern.compile("\\b(Math|Integer|Long|String|Arrays|Character|Boolean|StringBuilder|List|ArrayList)\\.\\w+").matcher(plain);
    while (used.find()) {
      check.due(used.group() + " is of the library", LIBRARY.contains(used.group()) || used.group().equals("Math.abs"), true);
    }
  }

  private static void tryLengths(String source) {
    int from = 0;
    int line = 0;
    for (String text : source.split("\n")) {
      line++;
      if (text.matches(" {4}( {4})?[A-Za-z].*\\{")) {
        from = line;
      }
      if (text.matches(" {4}( {4})?}")) {
        check.due("the method that ends in line " + line + " is short", line - from <= 60, true);
        from = line;
      }
    }
    for (char sign : source.toCharArray()) {
      check.due("signs are 1 to 127", sign > 0 && sign < 128, true);
    }
  }

  public static void main(String[] args) throws Exception {
    Set<String> names = tryFace();
    tryClass(ToldPowers.class, names);
    Class<?>[] inner = ToldPowers.class.getDeclaredClasses();
    check.due("some twelve classes", inner.length <= 11, true);
    for (Class<?> type : inner) {
      check.due(type.getName() + " is static", Modifier.isStatic(type.getModifiers()), true);
      tryClass(type, names);
    }
    String source = Files.readString(Path.of("src/main/java/ToldPowers.java"));
    tryWords(withoutComments(source));
    tryCalls(withoutComments(source), inner);
    tryLengths(source);
    check.end();
  }
}
