import java.lang.reflect.Method;
import java.lang.reflect.Modifier;
import java.nio.file.Files;
import java.nio.file.Path;
import java.util.HashMap;
import java.util.HashSet;
import java.util.Map;
import java.util.Set;
import java.util.regex.Matcher;
import java.util.regex.Pattern;

/** The calls that README.md tells, one behind the other on one object, with the answers told there. */
public final class ReadmeTest {
  private static final Check check = new Check("ReadmeTest");
  private static final Pattern CODE = Pattern.compile("(?s)```java\n(.*?)```");
  private static final Pattern CALL = Pattern.compile("x\\.(\\w+)\\((.*?)\\); *// (true|false|Long\\.MIN_VALUE|-?\\d+)(: .*)?");
  private static final Pattern PUT = Pattern.compile("put\\(x, \"(.*)\"\\);");
  private static final Pattern MADE = Pattern.compile("ToldPowers x = new ToldPowers\\(\\);.*");
  private static final Pattern QUOTED = Pattern.compile(": \"(.*)\"");
  private static final Map<String, Method> face = new HashMap<>();
  private static final Set<String> told = new HashSet<>();
  private static ToldPowers x;

  private static Object argument(Class<?> type, String text) {
    if (type == boolean.class) {
      return Boolean.valueOf(text);
    }
    if (type == long.class) {
      return Long.decode(text);
    }
    return Integer.decode(text);
  }

  private static long number(String text) {
    return switch (text) {
      case "true" -> 1;
      case "false" -> 0;
      case "Long.MIN_VALUE" -> Long.MIN_VALUE;
      default -> Long.parseLong(text);
    };
  }

  private static void call(String line, Matcher call) throws Exception {
    Method method = face.get(call.group(1));
    check.due("there is " + call.group(1), method != null, true);
    if (method == null) {
      return;
    }
    told.add(call.group(1));
    String[] texts = call.group(2).isEmpty() ? new String[0] : call.group(2).split(", *");
    Class<?>[] types = method.getParameterTypes();
    check.due("arguments in '" + line + "'", texts.length, types.length);
    Object[] arguments = new Object[types.length];
    for (int i = 0; i < types.length; i++) {
      arguments[i] = argument(types[i], texts[i]);
    }
    Object answer = method.invoke(x, arguments);
    boolean boolTold = call.group(3).equals("true") || call.group(3).equals("false");
    check.due("a boolean in '" + line + "'", answer instanceof Boolean, boolTold);
    check.due(line, number(answer.toString()), number(call.group(3)));
    Matcher quoted = QUOTED.matcher(call.group(4) == null ? "" : call.group(4));
    if (quoted.matches()) {
      check.text(line, Check.shown(x), quoted.group(1));
    }
  }

  private static void read(String line) throws Exception {
    Matcher call = CALL.matcher(line);
    Matcher put = PUT.matcher(line);
    if (MADE.matcher(line).matches()) {
      x = new ToldPowers();
    } else if (put.matches()) {
      Check.put(x, put.group(1));
    } else {
      check.due("'" + line + "' is a call with its answer", call.matches(), true);
      if (call.matches()) {
        call(line, call);
      }
    }
  }

  private static String folded(String text) {
    return text.replaceAll("\\s+", " ").trim();
  }

  public static void main(String[] args) throws Exception {
    for (Method method : ToldPowers.class.getDeclaredMethods()) {
      if (Modifier.isPublic(method.getModifiers())) {
        face.put(method.getName(), method);
      }
    }
    String helpers = folded(Files.readString(Path.of("src/test/java/Check.java")));
    Matcher code = CODE.matcher(Files.readString(Path.of("README.md")));
    while (code.find()) {
      if (code.group(1).startsWith("static void put")) {
        check.due("put is the one of Check", helpers.contains(folded(code.group(1))), true);
        continue;
      }
      for (String line : code.group(1).split("\n")) {
        read(line.trim());
      }
    }
    for (String name : face.keySet()) {
      check.due("a call of " + name + " is told", told.contains(name), true);
    }
    check.end();
  }
}
