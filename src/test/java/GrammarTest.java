import java.util.ArrayList;
import java.util.Arrays;
import java.util.HashMap;
import java.util.HashSet;
import java.util.LinkedHashMap;
import java.util.List;
import java.util.Map;
import java.util.Random;
import java.util.Set;
import java.util.regex.Matcher;
import java.util.regex.Pattern;

/**
 * The grammar's lines, as the document has them, are read and followed word by word, by sets of all places in them
 * that can be reached: what error 1 is, and where, is so told without a reading of the grammar by hand. Texts are
 * drawn from the same lines, and changed a little. "java GrammarTest RUNS FIRST" tries other texts.
 */
public final class GrammarTest extends Scripts {
    private static final String LINES = """
        program = item { item }        whole = [ "-" ] number
        item = ( "track" | "pool" ) name whole "to" whole "at" whole ";" | "phase" name ":" name { "," name } ";" | ( "act" | "reply" ) name body | "rule" name "at" name body | "win" expression ";"
        body = [ "when" expression ] "do" { statement } "end"
        statement = ( "set" | "add" ) place expression ";" | "if" expression "then" { statement } [ "else" { statement } ] "end" | "all" { statement } "end" | "cancel" ";" | "again" ";" | "skip" ";"
        place = "my" name | "their" name | name
        expression = both { "or" both }        both = relation { "and" relation }        relation = sum [ ( "=" | "<>" | "<" | ">" | "<=" | ">=" ) sum ]
        sum = product { ( "+" | "-" ) product }        product = factor { ( "*" | "/" | "%" ) factor }
        factor = number | place | "round" | "depth" | "me" | "them" | "players" | "(" expression ")" | ( "-" | "not" | "die" ) factor
        """;
    private static final List<String> OF_EXPRESSIONS = List.of("expression", "both", "relation", "sum", "product", "factor");
    private static final String[] NAMES = {"a", "b", "c", "x", "y9", "abcdefgh"};
    private static final String[] NUMBERS = {"0", "1", "7", "12", "999", "9999"};
    private static final String[] WRONG = {"abcdefghi", "12345", "_", "A", "!", "a23456789", "\u00e9", "\t"};
    private static int runs = 1500;
    private static int first = 1;

    /** A part of a line: a word in quotation marks, another line's name, or parts that stand together. */
    private record Part(String kind, String word, List<List<Part>> choices) {
    }

    private static final Map<String, List<List<Part>>> READ = new LinkedHashMap<>();
    // Each symbol that is followed further has rows of symbols; the depth or nesting is part of its name.
    private static final Map<String, List<List<String>>> ROWS = new LinkedHashMap<>();
    private static final Set<String> CAN_BE_EMPTY = new HashSet<>();
    private static final List<String> WORDS = new ArrayList<>();
    private static int helpers = 0;

    public static void main(String[] args) {
        if (args.length == 2) {
            runs = Integer.parseInt(args[0]);
            first = Integer.parseInt(args[1]);
        }
        readLines();
        rowsOf("program", 0);
        findEmpty();
        runAll(GrammarTest.class);
    }

    // ---- the lines are read

    private static void readLines() {
        Matcher line = Pattern.compile("(\\w+) = (.*?)(?=\\s+\\w+ = |\\s*\\z)", Pattern.DOTALL).matcher(LINES);
        while (line.find()) {
            List<String> marks = new ArrayList<>();
            Matcher mark = Pattern.compile("\"[^\"]*\"|\\w+|[\\[\\]{}()|]").matcher(line.group(2));
            while (mark.find()) {
                marks.add(mark.group());
                if (mark.group().startsWith("\"") && !WORDS.contains(mark.group())) {
                    WORDS.add(mark.group());
                }
            }
            READ.put(line.group(1), choices(marks));
        }
    }

    private static List<List<Part>> choices(List<String> marks) {
        List<List<Part>> all = new ArrayList<>();
        all.add(new ArrayList<>());
        while (!marks.isEmpty() && !"]})".contains(marks.get(0))) {
            String mark = marks.remove(0);
            List<Part> row = all.get(all.size() - 1);
            if (mark.equals("|")) {
                all.add(new ArrayList<>());
            } else if ("[{(".contains(mark)) {
                row.add(new Part(mark, "", choices(marks)));
                marks.remove(0);
            } else {
                row.add(new Part(mark.startsWith("\"") ? "word" : "line", mark, List.of()));
            }
        }
        return all;
    }

    // ---- depth and nesting are told apart

    /** The symbol of a line at a depth or nesting; null if it would be too great. */
    private static String rowsOf(String line, int level) {
        boolean deep = OF_EXPRESSIONS.contains(line);
        if (level > (deep ? 8 : line.equals("statement") ? 4 : 0)) {
            return null;
        }
        String symbol = line + level;
        if (!ROWS.containsKey(symbol)) {
            ROWS.put(symbol, List.of());
            ROWS.put(symbol, rows(READ.get(line), line, level));
        }
        return symbol;
    }

    private static List<List<String>> rows(List<List<Part>> choices, String line, int level) {
        List<List<String>> all = new ArrayList<>();
        for (List<Part> choice : choices) {
            List<String> row = new ArrayList<>();
            for (Part part : choice) {
                row.add(symbol(part, line, level));
            }
            if (!row.contains(null)) {
                all.add(row);
            }
        }
        return all;
    }

    private static String symbol(Part part, String line, int level) {
        if (part.kind.equals("word") || part.word.equals("name") || part.word.equals("number")) {
            return part.word;
        }
        if (part.kind.equals("line")) {
            return rowsOf(part.word, levelOf(part.word, line, level));
        }
        List<List<String>> inner = rows(part.choices, line, level);
        if (inner.isEmpty()) {
            return null;
        }
        String helper = "part " + helpers++;
        if (part.kind.equals("(")) {
            ROWS.put(helper, inner);
        } else {
            String one = "part " + helpers++;
            ROWS.put(one, inner);
            ROWS.put(helper, part.kind.equals("[") ? List.of(List.of(), List.of(one)) : List.of(List.of(), List.of(helper, one)));
        }
        return helper;
    }

    /** One deeper in a factor's parts, one more nested in a statement's; 0 where an expression or a body begins. */
    private static int levelOf(String part, String line, int level) {
        if (OF_EXPRESSIONS.contains(part)) {
            return line.equals("factor") ? level + 1 : OF_EXPRESSIONS.contains(line) ? level : 0;
        }
        return part.equals("statement") && line.equals("statement") ? level + 1 : 0;
    }

    private static void findEmpty() {
        for (int round = 0; round < ROWS.size(); round++) {
            for (String symbol : ROWS.keySet()) {
                if (ROWS.get(symbol).stream().anyMatch(CAN_BE_EMPTY::containsAll)) {
                    CAN_BE_EMPTY.add(symbol);
                }
            }
        }
    }

    // ---- the lines are followed

    /** A row, how much of it is behind, and the token at which it began. */
    private record Place(String symbol, List<String> row, int behind, int from) {
        String next() {
            return behind < row.size() ? row.get(behind) : "";
        }

        Place on() {
            return new Place(symbol, row, behind + 1, from);
        }
    }

    /** The first token that cannot stand there, the end counted as one more; -1 if there is none. */
    private static int firstWrong(List<String> tokens) {
        List<Set<Place>> sets = new ArrayList<>();
        Set<Place> start = new HashSet<>();
        start.add(new Place("", List.of("program0"), 0, 0));
        sets.add(reached(start, sets));
        for (int at = 0; at < tokens.size(); at++) {
            Set<Place> next = new HashSet<>();
            for (Place place : sets.get(at)) {
                if (at < 450 && place.next().equals(sortOf(tokens.get(at)))) {
                    next.add(place.on());
                }
            }
            if (next.isEmpty()) {
                return at;
            }
            sets.add(reached(next, sets));
        }
        boolean whole = sets.get(tokens.size()).contains(new Place("", List.of("program0"), 1, 0));
        return whole ? -1 : tokens.size();
    }

    private static Set<Place> reached(Set<Place> from, List<Set<Place>> ahead) {
        int now = ahead.size();
        Set<Place> all = new HashSet<>(from);
        Map<String, List<Place>> waiting = new HashMap<>();
        List<Place> work = new ArrayList<>(from);
        while (!work.isEmpty()) {
            Place place = work.remove(work.size() - 1);
            List<Place> more = new ArrayList<>();
            if (place.next().isEmpty()) {
                Iterable<Place> set = place.from < now ? ahead.get(place.from) : waiting.getOrDefault(place.symbol, List.of());
                for (Place other : set) {
                    if (other.next().equals(place.symbol)) {
                        more.add(other.on());
                    }
                }
            } else if (ROWS.containsKey(place.next())) {
                waiting.computeIfAbsent(place.next(), k -> new ArrayList<>()).add(place);
                for (List<String> row : ROWS.get(place.next())) {
                    more.add(new Place(place.next(), row, 0, now));
                }
                if (CAN_BE_EMPTY.contains(place.next())) {
                    more.add(place.on());
                }
            }
            for (Place one : more) {
                if (all.add(one)) {
                    work.add(one);
                }
            }
        }
        return all;
    }

    private static String sortOf(String token) {
        if (WORDS.contains("\"" + token + "\"")) {
            return "\"" + token + "\"";
        }
        return token.matches("[a-z][a-z0-9]{0,7}") ? "name" : token.matches("[0-9]{1,4}") ? "number" : "wrong";
    }

    // ---- texts are drawn

    private static void draw(List<String> tokens, String line, Random chance, int left) {
        if (line.equals("name") || line.equals("number")) {
            String[] all = line.equals("name") ? NAMES : NUMBERS;
            tokens.add(all[chance.nextInt(all.length)]);
            return;
        }
        List<List<Part>> choices = READ.get(line);
        int choice = chance.nextInt(choices.size());
        // With little left, the parts that are no longer than a few tokens.
        if (left < 0) {
            choice = line.equals("factor") ? chance.nextInt(7) : line.equals("statement") ? 3 + chance.nextInt(3) : choice;
        }
        drawRow(tokens, choices.get(choice), chance, left);
    }

    private static void drawRow(List<String> tokens, List<Part> row, Random chance, int left) {
        for (Part part : row) {
            if (part.kind.equals("word")) {
                tokens.add(part.word.substring(1, part.word.length() - 1));
            } else if (part.kind.equals("line")) {
                draw(tokens, part.word, chance, left - 1);
            } else if (part.kind.equals("(")) {
                drawRow(tokens, part.choices.get(chance.nextInt(part.choices.size())), chance, left - 1);
            } else {
                int most = part.kind.equals("[") ? 1 : 3;
                for (int times = left < 0 ? 0 : chance.nextInt(most + 1); times > 0; times--) {
                    drawRow(tokens, part.choices.get(0), chance, left - 1);
                }
            }
        }
    }

    private static void change(List<String> tokens, Random chance) {
        int at = chance.nextInt(tokens.size());
        String other = tokens.get(chance.nextInt(tokens.size()));
        switch (chance.nextInt(8)) {
            case 0 -> tokens.remove(at);
            case 1 -> tokens.add(at, other);
            case 2 -> tokens.set(at, other);
            case 3 -> tokens.set(at, any(chance));
            case 4 -> tokens.add(at, any(chance));
            case 5 -> tokens.subList(at, tokens.size()).clear();
            case 6 -> tokens.addAll(at, List.of("not", "(", "-", "die", "(", "(", "-", "not", "(").subList(0, 1 + chance.nextInt(9)));
            default -> tokens.set(at, WRONG[chance.nextInt(WRONG.length)]);
        }
    }

    private static String any(Random chance) {
        String word = WORDS.get(chance.nextInt(WORDS.size()));
        return word.substring(1, word.length() - 1);
    }

    // ---- tests

    /** Puts blanks between the tokens, or nothing where they are not read as one; returns where each begins, and the length. */
    private static int[] joined(List<String> tokens, StringBuilder text, Random chance) {
        int[] starts = new int[tokens.size() + 1];
        for (int i = 0; i < tokens.size(); i++) {
            String ahead = i > 0 ? tokens.get(i - 1) : " ";
            boolean asOne = wordlike(ahead) && wordlike(tokens.get(i)) || WORDS.contains("\"" + ahead + tokens.get(i).charAt(0) + "\"");
            if (asOne || chance.nextInt(3) == 0) {
                text.append(chance.nextInt(5) == 0 ? "\n" : " ");
            }
            starts[i] = text.length();
            text.append(tokens.get(i));
        }
        text.append(" ".repeat(chance.nextInt(2)));
        starts[tokens.size()] = text.length();
        return starts;
    }

    private static boolean wordlike(String token) {
        return token.matches(".*[a-z0-9]");
    }

    private static void compare(List<String> tokens, Random chance) {
        StringBuilder text = new StringBuilder();
        int[] starts = joined(tokens, text, chance);
        if (text.length() > 2000) {
            return;
        }
        int wrong = firstWrong(tokens);
        String got = compiled(new RuleStack(), text.toString());
        if (wrong >= 0) {
            due("compile of " + text, got, "1 at " + starts[wrong]);
        } else {
            due("error 1 of " + text, "" + got.startsWith("1 "), "false");
        }
    }

    private static List<String> tokens(String text) {
        return new ArrayList<>(Arrays.asList(text.trim().split("\\s+")));
    }

    static void section1TheGrammarAsItStands() {
        sentence("Section 1", "Grammar. [ x ] means x or nothing, { x } means x any number of times, also none, and | separates alternatives; "
            + "keywords and symbols of the language are in quotation marks.");
        int whole = 0;
        for (int run = first; run < first + runs; run++) {
            Random chance = new Random(run);
            List<String> tokens = new ArrayList<>();
            draw(tokens, "program", chance, 5 + chance.nextInt(20));
            for (int changes = chance.nextInt(3); changes > 0 && !tokens.isEmpty(); changes--) {
                change(tokens, chance);
            }
            whole += firstWrong(tokens) < 0 ? 1 : 0;
            compare(tokens, chance);
        }
        due("some texts are whole, and some are not", "" + (whole > runs / 10 && whole < runs * 9 / 10), "true");
    }

    static void section1TheLinesAreTheDocuments() {
        sentence("Section 1", LINES.trim().replace("\n", " .. "));
        due("lines that were read", "" + READ.keySet(), "[program, whole, item, body, statement, place, expression, both, relation, sum, product, factor]");
        due("keywords and symbols", "" + WORDS.size(), "" + (32 + 16));
    }

    static void section1EachTokenBehindEachOther() {
        sentence("Section 1", "Error 1: the first token with which the tokens so far are not the beginning of a program.");
        List<String> program = tokens("track a - 1 to 1 at 0 ; pool b 0 to 1 at 0 ; phase p : x , x ; act x when not b = 1 do set my a ( b + 2 ) * 3 ; "
            + "add b 1 ; if b then skip ; else all cancel ; end end again ; end reply y do end rule r at p do end win die 3 and - me or 1 ;");
        Random chance = new Random(1);
        for (int at = 0; at <= program.size(); at++) {
            for (int word = 0; word < WORDS.size() + 3; word++) {
                List<String> changed = new ArrayList<>(program.subList(0, at));
                changed.add(word < WORDS.size() ? WORDS.get(word).replace("\"", "") : word == WORDS.size() ? "n" : word == WORDS.size() + 1 ? "5" : "?");
                compare(changed, chance);
            }
        }
    }
}
