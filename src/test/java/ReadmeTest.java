import java.nio.file.Files;
import java.nio.file.Path;
import java.util.ArrayList;
import java.util.List;
import java.util.regex.Matcher;
import java.util.regex.Pattern;
import java.util.stream.Stream;

/** README.md: its example answers what it tells, its commands work as they stand there, and it names each test. */
public final class ReadmeTest {
  private static final Path ROOT = Path.of("").toAbsolutePath();
  private static final Pattern FENCE = Pattern.compile("(?ms)^```(\\w*)\\n(.*?)^```$");
  private static final Pattern TOLD = Pattern.compile("^(?:int (\\w+) = )?(.*);\\s*// (-?\\d+)(?!\\d).*$");
  private static int wrong = 0;

  private static void broken(String what) {
    wrong++;
    System.out.println("README.md: " + what);
  }

  private static List<String> blocks(String text, String sort) {
    List<String> blocks = new ArrayList<>();
    for (Matcher m = FENCE.matcher(text); m.find();) if (m.group(1).equals(sort)) blocks.add(m.group(2));
    return blocks;
  }

  /** Commands stand in blocks of sh, a line each, and between backticks where they begin with java or javac. */
  private static List<String> commands(String text) {
    List<String> commands = new ArrayList<>();
    for (String block : blocks(text, "sh")) commands.addAll(block.lines().filter(l -> !l.isBlank()).toList());
    Matcher m = Pattern.compile("`(javac? [^`]+)`").matcher(FENCE.matcher(text).replaceAll(""));
    while (m.find()) commands.add(m.group(1));
    return commands;
  }

  private static int run(Path where, String command) throws Exception {
    Path said = Files.createTempFile(where, "said", "");
    Process p = new ProcessBuilder("sh", "-c", command).directory(where.toFile()).redirectErrorStream(true).redirectOutput(said.toFile()).start();
    int code = p.waitFor();
    if (code != 0) broken("'" + command + "' ended with " + code + "\n" + Files.readString(said));
    return code;
  }

  /** A checkout beside the shared folder, as here, in which what the commands make does not stay. */
  private static Path checkout(Path work) throws Exception {
    Path main = Files.createDirectory(work.resolve("main"));
    Files.createSymbolicLink(main.resolve("src"), ROOT.resolve("src"));
    Files.createSymbolicLink(work.resolve("shared"), ROOT.resolveSibling("shared"));
    return main;
  }

  private static void example(Path where, List<String> blocks) throws Exception {
    if (blocks.isEmpty()) broken("it has no example");
    StringBuilder b = new StringBuilder("public final class Example {\n  static int wrong = 0, told = 0;\n");
    b.append("  static void due(String call, int got, int want) {\n    told++;\n    if (got == want) return;\n");
    b.append("    wrong++;\n    System.out.println(call + \" answered \" + got + \", told is \" + want);\n  }\n");
    b.append("  public static void main(String[] args) {\n");
    for (String block : blocks) for (String line : block.split("\n")) b.append(checked(line)).append('\n');
    b.append("    if (wrong != 0 || told == 0) System.exit(1);\n  }\n}\n");
    Files.writeString(where.resolve("Example.java"), b);
    if (run(where, "javac -d example src/main/java/InquiryBench.java Example.java") == 0) run(where, "java -cp example Example");
  }

  /** The line, and a check where it tells an answer. */
  private static String checked(String line) {
    Matcher m = TOLD.matcher(line);
    if (!m.matches()) return line;
    String call = "\"" + m.group(2).replace("\"", "'") + "\", ";
    if (m.group(1) == null) return "due(" + call + m.group(2) + ", " + m.group(3) + ");";
    return "int " + m.group(1) + " = " + m.group(2) + "; due(" + call + m.group(1) + ", " + m.group(3) + ");";
  }

  private static void names(String text) throws Exception {
    try (Stream<Path> files = Files.list(ROOT.resolve("src/test/java"))) {
      for (Path f : files.toList()) {
        String name = f.getFileName().toString().replace(".java", "");
        if (name.endsWith("Test") && !text.contains("`" + name + "`")) broken("it does not name " + name);
      }
    }
    for (Matcher m = Pattern.compile("`(\\w+Test)`").matcher(text); m.find();) {
      if (!Files.exists(ROOT.resolve("src/test/java/" + m.group(1) + ".java"))) broken("there is no " + m.group(1));
    }
  }

  private static void delete(Path p) throws Exception {
    if (Files.isDirectory(p) && !Files.isSymbolicLink(p)) {
      try (Stream<Path> files = Files.list(p)) {
        for (Path f : files.toList()) delete(f);
      }
    }
    Files.delete(p);
  }

  public static void main(String[] args) throws Exception {
    String text = Files.readString(ROOT.resolve("README.md"));
    Path work = Files.createTempDirectory("readme");
    Path main = checkout(work);
    List<String> commands = commands(text);
    for (String command : commands) {
      // It is .ci/run that runs this test, so it is not run once more from here.
      if (!command.equals(".ci/run")) run(main, command);
    }
    if (!commands.contains(".ci/run") || !Files.isExecutable(ROOT.resolve(".ci/run"))) broken("it does not tell to run .ci/run");
    example(main, blocks(text, "java"));
    names(text);
    delete(work);
    System.out.println(wrong == 0 ? "README.md is right" : wrong + " things are wrong in README.md");
    if (wrong != 0) System.exit(1);
  }
}
