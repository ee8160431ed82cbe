import java.io.IOException;
import java.lang.reflect.Field;
import java.lang.reflect.Method;
import java.lang.reflect.Modifier;
import java.nio.file.Files;
import java.nio.file.Path;
import java.util.Arrays;
import java.util.Set;
import java.util.TreeSet;
import java.util.regex.Matcher;
import java.util.regex.Pattern;
import java.util.stream.Collectors;
import java.util.stream.Stream;

/** README.md is followed word for word: what it says comes of it. */
public final class ReadmeTest {
    private static final Kit KIT = new Kit("ReadmeTest");
    private static final Pattern BLOCK = Pattern.compile("```(\\w+)\n(.*?)```\n", Pattern.DOTALL);
    private static final Pattern QUOTED = Pattern.compile("`([^`\n]+)`");
    private static final String EXAMPLE = "src/example/java/Example.java";
    private static final String RUN_SCRIPT = ".ci/run";

    private static String readme;

    public static void main(String[] args) throws IOException, InterruptedException {
        readme = Files.readString(Workshop.ROOT.resolve("README.md"));
        commands();
        calls();
        constants();
        indexes();
        classesInside();
        paths();
        KIT.end();
    }

    /** The commands are given in a copy, as they leave files behind. */
    private static void commands() throws IOException, InterruptedException {
        try (Workshop workshop = new Workshop()) {
            workshop.copy("src", "project/src");
            Files.createSymbolicLink(workshop.at("shared"), Workshop.ROOT.resolve("../shared"));
            Matcher block = BLOCK.matcher(readme);
            String before = "";
            int commands = 0;
            while (block.find()) {
                String what = block.group(1);
                if (what.equals("sh")) {
                    command(workshop, block.group(2));
                    commands++;
                } else if (what.equals("text")) {
                    KIT.due("text behind", before, "sh");
                    KIT.due("the commands", workshop.output(), block.group(2));
                } else {
                    KIT.due("block of code", what, "java");
                    excerpt(block.group(2));
                }
                before = what;
            }
            KIT.due("blocks of commands", commands, 5);
            KIT.due("what is there then", listed(workshop.at("project")).toString(), "[out, src]");
        }
        KIT.due("git does not look at out",
                Files.readAllLines(Workshop.ROOT.resolve(".gitignore")).toString(), "[/out/]");
    }

    private static void command(Workshop workshop, String commands)
            throws IOException, InterruptedException {
        if (commands.equals(RUN_SCRIPT + "\n")) {
            // It would run this test again; RunScriptTest looks at what it does.
            KIT.due(RUN_SCRIPT + " can be run",
                    Files.isExecutable(Workshop.ROOT.resolve(RUN_SCRIPT)) ? 1 : 0, 1);
            return;
        }
        KIT.due("exit code of " + commands, workshop.run("project", commands), 0);
    }

    private static void excerpt(String code) throws IOException {
        String example = Files.readString(Workshop.ROOT.resolve(EXAMPLE));
        KIT.due("the example has " + code, example.contains(code) ? 1 : 0, 1);
    }

    private static Set<String> listed(Path directory) throws IOException {
        try (Stream<Path> all = Files.list(directory)) {
            return all.map(p -> p.getFileName().toString())
                    .collect(Collectors.toCollection(TreeSet::new));
        }
    }

    /** The rows of a table that begin with a quoted cell of this form. */
    private static Set<String> rows(String firstCell, String otherCells) {
        Set<String> rows = new TreeSet<>();
        Matcher row = Pattern.compile("(?m)^\\| `" + firstCell + "` \\| " + otherCells + " *\\|$")
                .matcher(readme);
        while (row.find()) {
            rows.add(row.group(1) + " " + row.group(2));
        }
        return rows;
    }

    private static void calls() {
        Set<String> due = new TreeSet<>();
        for (Method m : CatalogQuery.class.getDeclaredMethods()) {
            if (Modifier.isPublic(m.getModifiers())) {
                due.add(m.getName() + "(" + m.getParameterCount() + ") "
                        + Arrays.stream(m.getExceptionTypes()).map(e -> "`" + e.getSimpleName()
                        + "`").collect(Collectors.joining(", ")));
            }
        }
        Set<String> told = new TreeSet<>();
        for (String row : rows("(\\w+\\([\\w, ]*\\))", "[^|]+ \\| ?([^|]*?)")) {
            String name = row.substring(0, row.indexOf('('));
            String given = row.substring(row.indexOf('(') + 1, row.indexOf(')'));
            int many = given.isEmpty() ? 0 : given.split(", ").length;
            told.add(name + "(" + many + ")" + row.substring(row.indexOf(')') + 1));
        }
        KIT.due("calls", told.toString(), due.toString());
    }

    private static void constants() throws IOException {
        Set<String> due = new TreeSet<>();
        for (Field f : CatalogQuery.class.getFields()) {
            try {
                due.add(f.getName() + " " + f.getInt(null));
            } catch (IllegalAccessException e) {
                KIT.due(f.getName(), "hidden", "seen");
            }
        }
        KIT.due("constants", rows("([A-Z]+)", "(-\\d) \\| [^|]+").toString(), due.toString());
    }

    private static void indexes() {
        int from = readme.indexOf("The indexes: ");
        KIT.due("the indexes are told", from >= 0 ? 1 : 0, 1);
        Matcher index = Pattern.compile("(\\d) `(\\w+)`")
                .matcher(readme.substring(from, readme.indexOf('.', from)));
        CatalogQuery x = KIT.loaded(Kit.marc("001five", "1001 $atwo", "24500$aone",
                "260  $cfour", "500  $azero", "650 0$athree"));
        String[] words = {"zero", "one", "two", "three", "four", "five"};
        for (int i = 0; i < words.length; i++) {
            KIT.due("an index is told", index.find() ? 1 : 0, 1);
            KIT.due("its number", index.group(1), Integer.toString(i));
            KIT.due(index.group(2), Kit.asked(x, index.group(2) + " = " + words[i]), "0");
            KIT.due("words of " + index.group(2), Kit.lexicon(x, i),
                    i == 0 ? "four one three two zero" : words[i]);
        }
        KIT.due("another index is told", index.find() ? 1 : 0, 0);
    }

    private static void classesInside() {
        Set<String> missing = new TreeSet<>();
        for (Class<?> inside : CatalogQuery.class.getDeclaredClasses()) {
            if (!readme.contains("`" + inside.getSimpleName() + "`")) {
                missing.add(inside.getSimpleName());
            }
        }
        KIT.due("classes inside that are not told", missing.toString(), "[]");
    }

    private static void paths() {
        Matcher quoted = QUOTED.matcher(readme);
        int many = 0;
        while (quoted.find()) {
            String path = quoted.group(1);
            if (path.matches("(src|\\.\\./shared|\\.ci)/[\\w./]+")) {
                many++;
                KIT.due(path, Files.exists(Workshop.ROOT.resolve(path)) ? "there" : "lacking",
                        "there");
            }
        }
        KIT.due("there are paths", many > 3 ? 1 : 0, 1);
    }
}
