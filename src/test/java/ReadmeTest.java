import java.io.IOException;
import java.lang.reflect.Method;
import java.lang.reflect.Modifier;
import java.nio.file.Files;
import java.nio.file.Path;
import java.util.ArrayList;
import java.util.List;
import java.util.Map;
import java.util.TreeMap;
import java.util.TreeSet;
import java.util.regex.Matcher;
import java.util.regex.Pattern;
import java.util.stream.Stream;

/** What README.md says is so. It is run in the project's directory. */
public final class ReadmeTest {
    private static final Check c = new Check();
    private static final Pattern CALL = Pattern.compile("(\\w+)\\(([^)]*)\\)");
    private static final Pattern SAMPLE = Pattern.compile("market\\.(\\w+\\([^)]*\\)); +// (-?\\d+): .+");
    private static final String[] FINDINGS = {"BEYOND", "FULL", "KIND", "NONE", "STATE", "MISSING", "SIZE"};

    private static final Map<String, Method> ACTS = new TreeMap<>();

    public static void main(String[] args) throws IOException, ReflectiveOperationException {
        for (Method act : MovingMarket.class.getDeclaredMethods()) {
            if (Modifier.isPublic(act.getModifiers())) {
                ACTS.put(act.getName(), act);
            }
        }
        String page = Files.readString(Path.of("README.md"));
        samples(block(page, "java"));
        calls(rows(page, "call"));
        kinds(rows(page, "kind"));
        findings(rows(page, "`status`"));
        text(page);
        tests(rows(page, "test"));
        c.holds(".ci/run can be run", Files.isExecutable(Path.of(".ci/run")));
        c.end();
    }

    /** The lines of the first fenced block of a language. */
    private static String[] block(String page, String language) {
        Matcher matcher = Pattern.compile("(?s)```" + language + "\n(.*?)\n```").matcher(page);
        c.holds("there is a block of " + language, matcher.find());
        return matcher.group(1).split("\n");
    }

    /** The cells of the rows of all tables whose first head is this one. */
    private static List<String[]> rows(String page, String head) {
        List<String[]> found = new ArrayList<>();
        boolean isIn = false;
        for (String line : page.split("\n")) {
            if (line.startsWith("| " + head + " |")) {
                isIn = true;
            } else if (!line.startsWith("|")) {
                isIn = false;
            } else if (isIn && !line.startsWith("| ---")) {
                String[] cells = line.substring(1).split("\\|");
                for (int i = 0; i < cells.length; i++) {
                    cells[i] = cells[i].trim();
                }
                found.add(cells);
            }
        }
        return found;
    }

    private static int call(MovingMarket market, String told) throws ReflectiveOperationException {
        Matcher matcher = CALL.matcher(told);
        c.holds(told + " is a call", matcher.matches() && ACTS.containsKey(matcher.group(1)));
        String[] words = matcher.group(2).isEmpty() ? new String[0] : matcher.group(2).split(", *");
        Object[] given = new Object[words.length];
        for (int i = 0; i < words.length; i++) {
            given[i] = Integer.valueOf(words[i]);
        }
        return (int) ACTS.get(matcher.group(1)).invoke(market, given);
    }

    private static void samples(String[] lines) throws ReflectiveOperationException {
        MovingMarket market = new MovingMarket();
        c.holds("a market is made first", lines[0].equals("MovingMarket market = new MovingMarket();"));
        for (int i = 1; i < lines.length; i++) {
            Matcher matcher = SAMPLE.matcher(lines[i]);
            c.holds(lines[i] + " tells a call and its answer", matcher.matches());
            c.due(matcher.group(1), call(market, matcher.group(1)), Long.parseLong(matcher.group(2)));
        }
        c.due("calls that are shown", lines.length - 1, 14);
    }

    /** Each call of the face is told, with as many arguments as it has. */
    private static void calls(List<String[]> rows) {
        TreeSet<String> told = new TreeSet<>();
        for (String[] row : rows) {
            Matcher matcher = CALL.matcher(row[0].replace("`", ""));
            c.holds(row[0] + " is a call", matcher.matches() && ACTS.containsKey(matcher.group(1)));
            int arguments = matcher.group(2).isEmpty() ? 0 : matcher.group(2).split(",").length;
            c.due("arguments of " + row[0], arguments, ACTS.get(matcher.group(1)).getParameterCount());
            c.holds(row[0] + " tells an answer", row.length == 3 && !row[2].isEmpty());
            c.holds(row[0] + " is told once", told.add(matcher.group(1)));
        }
        c.holds("each call is told, but there are " + told, told.equals(ACTS.keySet()));
    }

    private static void kinds(List<String[]> rows) {
        c.due("kinds", rows.size(), 7);
        for (String[] row : rows) {
            int kind = Integer.parseInt(row[0]);
            MovingMarket market = new MovingMarket();
            market.stall(kind, 1);
            market.hold(0, 0);
            market.visits(1, 7);
            market.visits(2, 6);
            c.due("price of " + row[1], market.of(0, 5), Long.parseLong(row[5]));
            if (!row[2].isEmpty()) {
                c.due(row[1] + " is under " + row[2], market.as(0, Integer.parseInt(row[2])), 0);
            }
            sells(market, row[1], row[3]);
            for (int hour = 0; hour < 12; hour++) {
                boolean goes = row[4].equals("always") || row[4].equals("at even hours") && hour % 2 == 0
                    || row[4].equals("at hours that 6 divides") && hour % 6 == 0;
                c.due(row[1] + " goes at " + hour, market.of(0, 6), goes ? 1 : 0);
                market.hours(1);
            }
            c.due("a text tells " + row[1], Check.read(new MovingMarket(), row[1] + " at 0"), 1);
        }
    }

    /** In the sun, in the shade and at the spring; 7 come by at the place and 6 at the next one. */
    private static void sells(MovingMarket market, String name, String told) {
        int[] due;
        switch (told) {
            case "the visits of its place": due = new int[] {7, 7, 7}; break;
            case "the visits of its place and of the next one": due = new int[] {13, 13, 13}; break;
            case "as a double one in the shade, else nothing": due = new int[] {0, 13, 0}; break;
            case "half of the visits of its place": due = new int[] {3, 3, 3}; break;
            case "as a blind one, three times as much at the spring": due = new int[] {3, 3, 9}; break;
            default: due = new int[] {-1, -1, -1};
        }
        c.due(name + " offers in the sun", market.offers(0, 1), due[0]);
        market.shade(1, true);
        c.due(name + " offers in the shade", market.offers(0, 1), due[1]);
        market.shade(1, false);
        market.spring(1);
        c.due(name + " offers at the spring", market.offers(0, 1), due[2]);
        market.spring(0);
    }

    private static void findings(List<String[]> rows) throws ReflectiveOperationException {
        String[] asked = {"visits(12, 0)", "feed(0, 4)", "as(0, 1)", "undo()", "stall(0, 1)", "load(0)", "most(1)"};
        c.due("findings", rows.size(), FINDINGS.length);
        for (int which = 0; which < rows.size(); which++) {
            MovingMarket market = new MovingMarket();
            for (int place = 0; place < 7; place++) {
                market.stall(0, place);
            }
            market.hold(0, 0);
            for (int bytes = 0; bytes < 120; bytes += 4) {
                market.feed(0, 4);
            }
            String[] row = rows.get(which);
            c.due("row of the findings", Long.parseLong(row[0]), which);
            c.holds(row[2] + " stands in its row", row[2].equals(FINDINGS[which]));
            c.due(asked[which], call(market, asked[which]), Long.parseLong(row[1]));
            c.due("status(" + which + ")", market.status(which), 1);
            c.due("status(-1)", market.status(-1), 1);
        }
    }

    private static void text(String page) {
        Matcher items = Pattern.compile("This one has (\\d+) items").matcher(page);
        c.holds("the items of the text are told", items.find());
        String text = String.join("\n", block(page, "text"));
        c.due(text, Check.read(new MovingMarket(), text), Long.parseLong(items.group(1)));
    }

    /** Each test of the project is told, and no other one. */
    private static void tests(List<String[]> rows) throws IOException {
        TreeSet<String> told = new TreeSet<>();
        for (String[] row : rows) {
            for (String name : row[0].replace("`", "").split(", *")) {
                told.add(name + ".java");
            }
        }
        TreeSet<String> found = new TreeSet<>();
        try (Stream<Path> files = Files.list(Path.of("src/test/java"))) {
            files.map(file -> file.getFileName().toString()).filter(name -> name.endsWith("Test.java")).forEach(found::add);
        }
        c.holds("the tests are " + found + ", told are " + told, told.equals(found));
    }
}
