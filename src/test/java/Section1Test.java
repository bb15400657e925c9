/**
 * "1. The language", promises 1 to 5: each sentence that names a boundary has a test of its own, with the last
 * value that is allowed and the first that isn't.
 */
public final class Section1Test extends Scripts {
    private static final String REST = "phase p:x;act x do end ";
    private static final String[] KEYWORDS = ("track pool to at phase act reply rule win when do end set add if then else "
        + "cancel again skip all my their die round depth me them players and or not").split(" ");

    public static void main(String[] args) {
        runAll(Section1Test.class);
    }

    // ---- the tape

    static void section1TapeAtMost2000Bytes() {
        sentence("Section 1", "The tape is a row of at most 2000 bytes");
        RuleStack x = new RuleStack();
        for (int fed = 20; fed <= 2000; fed += 20) {
            run(x, "feed 538976288 538976288 538976288 538976288 538976288 = " + fed);
        }
        run(x, """
            feed 0 0 0 0 0 = ISE
            count 6 = 2000
            compile = 1
            errorAt = 2000
            """);
        String full = " ".repeat(2000 - 29) + REST + "win 1;";
        good(full);
        fault(1, full.substring(0, 1999) + "|");
        fault(1, full.substring(0, 1999) + "|_");
        fault(1, " ".repeat(1999) + "|_");
        fault(1, " ".repeat(2000) + "|");
    }

    static void section1TapeAtFirstEmpty() {
        sentence("Section 1", "at first empty");
        script("", """
            count 6 = 0
            trim 1 = IAE
            trim 0 = 0
            compile = 1
            errorAt = 0
            """);
    }

    static void section1FilledByFeedAndTrim() {
        sentence("Section 1", "which feed and trim fill");
        // "win 1;win 1;wi.." cut behind each of its bytes.
        int[] states = {1, 1, 1, 1, 1, 1, 7, 1, 1, 1, 1, 1, 4, 1};
        int[] places = {0, 0, 0, 3, 4, 5, 6, 6, 6, 9, 10, 11, 6, 12};
        for (int kept = 0; kept < states.length; kept++) {
            script("the first " + kept + " bytes", """
                feed 2003398176 825980777 1847603515 2003398176 825980777 = 20
                trim %d = %d
                compile = %d
                errorAt = %d
                """.formatted(kept, kept, states[kept], places[kept]));
        }
    }

    static void section1TapeEmptyBehindCompile() {
        sentence("Section 1", "compile reads it, and it is empty behind it");
        script("", """
            text phase p:x;act x do end win 1;
            count 6 = 29
            compile = 0
            count 6 = 0
            trim 1 = IAE
            text win 1; win
            count 6 = 10
            compile = 1
            count 6 = 0
            trim 1 = IAE
            compile = 1
            errorAt = 0
            text win 1;
            compile = 7
            count 6 = 0
            feed 0 0 0 0 0 = 20
            """);
    }

    static void section1PositionsFrom0() {
        sentence("Terms", "Positions are counted from 0, in bytes.");
        fault(1, "|_");
        fault(1, " |_");
        fault(1, "\n|_");
        fault(1, "win 1;|_");
        fault(1, "win 1; |_");
        fault(4, "win 1;|win 1;");
    }

    // ---- tokens

    static void section1Blanks() {
        sentence("Section 1", "Blanks (32) and line ends (10) can stand between tokens, at the beginning and at the end");
        for (int b = 0; b < 256; b++) {
            String one = "" + (char) b;
            boolean blank = b == 32 || b == 10;
            if (blank) {
                good(one + REST + "win 1;");
                good(REST + "win 1;" + one);
                good(one + one + "phase" + one + "p" + one + ":" + one + "x" + one + ";act x do end win" + one + "1" + one + ";" + one);
            } else if (b != '|') {
                fault(1, "|" + one + " win 1;");
                fault(1, REST + "win 1;|" + one);
            }
        }
    }

    static void section1BytesBetweenTokens() {
        sentence("Section 1", "a byte with which no token begins");
        for (int b = 0; b < 256; b++) {
            String one = "" + (char) b;
            if ("0123456789+-*/%=<>".contains(one)) {
                good("win 1" + one + "1;" + REST);
            } else if (b == ' ' || b == '\n') {
                fault(1, "win 1" + one + "|1;" + REST);
            } else if (b == ';') {
                fault(1, "win 1" + one + "|1;" + REST);
            } else if (b != '|') {
                fault(1, "win 1|" + one + "1;" + REST);
            }
        }
        RuleStack x = new RuleStack();
        due("compile of a | at 5", compiled(x, "win 1|1;" + REST), "1 at 5");
    }

    static void section1BlanksBetweenWordsAndNumbers() {
        sentence("Section 1", "have to stand between two tokens that would otherwise be read as one");
        good("pool a 0to 9at 3;phase p:x;act x do add a 1;end win a>1and a<3or 0;");
        fault(1, "|win1;");
        fault(1, "pool a0 |to 9 at 3;");
        fault(1, "pool a 0 |to9 at 3;");
        fault(1, "pool a 0 to 9|at3;");
        fault(1, "|actx do end");
        fault(1, "act x |doend");
        good("track a 0 to 1 at 0;" + REST + "win my a;");
        fault(1, "track a 0 to 1 at 0; win mya|");
        fault(2, "track a 0 to 1 at 0; win |mya;");
        fault(1, "win 1 |2;");
        fault(1, "win 1< |=2;");
        fault(1, "win 1> |=2;");
        fault(1, "win 1< |>2;");
        good(REST + "win 1 <= 2;");
        good(REST + "win 1 >= 2;");
        good(REST + "win 1 <> 2;");
    }

    static void section1LongestToken() {
        sentence("Section 1", "The longest possible token is always read.");
        good(REST + "win 1<=2;");
        good(REST + "win 1>=2;");
        good(REST + "win 1<>2;");
        good(REST + "win 1<-2;");
        good(REST + "win 1=-2;");
        fault(1, "win 1=|<2;");
        fault(1, "win 1=|>2;");
        fault(1, "win 1>|<2;");
        fault(1, "win 1<=|=2;");
        fault(1, "win 1<>|>2;");
        fault(1, "win 1>=|>2;");
        fault(1, "win 1<|<2;");
        fault(1, "win 1>|>2;");
        fault(1, "win 1<=|>2;");
        good("pool win1 0 to 1 at 0;" + REST + "win win1;");
        good("pool notme 0 to 1 at 0;" + REST + "win not notme;");
        fault(2, "win |notme;");
        fault(2, "win |die6;");
        fault(1, "win 1|x;");
    }

    static void section1Words() {
        sentence("Section 1", "A word: a letter a to z, followed by letters a to z and digits");
        for (String name : new String[] {"a", "z", "a0", "z9", "az", "za", "a00", "a0a", "zz9zz9zz", "a9876543"}) {
            good("pool " + name + " 0 to 1 at 0;" + REST + "win " + name + ";");
        }
        // The bytes ahead of a, behind z, ahead of 0 and behind 9, and the capital letters.
        fault(1, "pool |`a 0 to 1 at 0;");
        fault(1, "pool |{a 0 to 1 at 0;");
        fault(1, "pool a|` 0 to 1 at 0;");
        fault(1, "pool a|{ 0 to 1 at 0;");
        fault(1, "pool a|/ 0 to 1 at 0;");
        fault(1, "pool a|: 0 to 1 at 0;");
        fault(1, "pool |A 0 to 1 at 0;");
        fault(1, "pool |Z 0 to 1 at 0;");
        fault(1, "pool a|A 0 to 1 at 0;");
        fault(1, "pool |0a 0 to 1 at 0;");
        fault(1, "pool |9a 0 to 1 at 0;");
        fault(1, "|Win 1;");
    }

    static void section1WordOf8Bytes() {
        sentence("Section 1", "at most 8 bytes in all");
        good("track abcdefg 0 to 1 at 0;" + REST + "win my abcdefg;");
        good("track abcdefgh 0 to 1 at 0;" + REST + "win my abcdefgh;");
        good("track a1234567 0 to 1 at 0;" + REST + "win my a1234567;");
        fault(1, "track |abcdefghi 0 to 1 at 0;");
        fault(1, "track |a12345678 0 to 1 at 0;");
        fault(1, "track |" + "a".repeat(1900));
        fault(1, "win my |abcdefghi;");
        fault(1, "|players12;");
        // Names differ by their eighth byte, too.
        good("track abcdefgh 0 to 1 at 0; track abcdefgi 0 to 1 at 0;" + REST + "win my abcdefgi;");
        fault(2, "track abcdefgh 0 to 1 at 0; win my |abcdefgi;");
        fault(2, "track abcdefgh 0 to 1 at 0; win my |abcdefg;");
    }

    static void section1NumberOf4Digits() {
        sentence("Section 1", "A number: 1 to 4 digits.");
        for (String number : new String[] {"0", "9", "10", "999", "1000", "9999", "0000", "0001"}) {
            good(REST + "win " + number + ";");
        }
        fault(1, "win |10000;");
        fault(1, "win |00000;");
        fault(1, "win |99999;");
        fault(1, "win |" + "9".repeat(1900) + ";");
        fault(1, "track a |00001 to 1 at 0;");
        fault(1, "track a 0 to |00001 at 0;");
        fault(1, "track a 0 to 1 at |00000;");
        fault(1, "track a -|00001 to 1 at 0;");
        yields("9999 % 1000", 999);
        yields("0012", 12);
    }

    static void section1Symbols() {
        sentence("Section 1", "Symbols: ( ) , ; : = + - * / % < > <= >= <>");
        good("phase p:x,x;act x do end win(1+2-3*4/5%6)=1;");
        good(REST + "win(1<2)+(1>2)+(1<=2)+(1>=2)+(1<>2);");
        for (char b : "!\"#$&'.?@[\\]^_{}~".toCharArray()) {
            fault(1, "win 1|" + b + "2;");
            fault(1, "win |" + b + "2;");
            fault(1, "|" + b);
        }
    }

    static void section1KeywordsAreNoNames() {
        sentence("Section 1", "All other words are names.");
        for (String keyword : KEYWORDS) {
            fault(1, "pool |" + keyword + " 0 to 1 at 0;");
            fault(1, "phase |" + keyword + ": x;");
            fault(1, "act |" + keyword + " do end");
            fault(1, "win my |" + keyword + ";");
            String longer = keyword + "x";
            good("pool " + longer + " 0 to 1 at 0;" + REST + "win " + longer + ";");
            String shorter = keyword.substring(0, keyword.length() - 1);
            if (!shorter.equals("a") && !java.util.Arrays.asList(KEYWORDS).contains(shorter)) {
                good("pool " + shorter + " 0 to 1 at 0;" + REST + "win " + shorter + ";");
            }
        }
        good("pool a 0 to 1 at 0;" + REST + "win a;");
        good("pool items 0 to 1 at 0; pool my1 0 to 1 at 0; pool wins 0 to 1 at 0;" + REST + "win items;");
    }

    // ---- grammar

    static void section1ProgramOfOneItem() {
        sentence("Section 1", "program = item { item }");
        fault(1, "|");
        fault(1, " \n |");
        fault(7, "win 1;|");
        fault(1, "win 1; |;");
        fault(1, "win 1; |1");
        fault(1, "|x");
        for (String keyword : KEYWORDS) {
            if (!"track pool phase act reply rule win".contains(keyword) || keyword.equals("all")) {
                fault(1, "|" + keyword + " x");
                fault(1, "win 1; |" + keyword);
            } else {
                fault(1, keyword + " |;");
            }
        }
    }

    static void section1WholeWithSign() {
        sentence("Section 1", "whole = [ \"-\" ] number");
        good("track a -5 to - 3 at -\n4;" + REST + "win 1;");
        good("track a -0 to 0 at -0;" + REST + "win 1;");
        fault(1, "track a -|-5 to 3 at 0;");
        fault(1, "track a |+5 to 3 at 0;");
        fault(1, "track a |(5) to 3 at 0;");
        fault(1, "track a |to 3 at 0;");
        fault(1, "track a 0 |9 at 3;");
        fault(1, "track a 0 to |at 3;");
        fault(1, "track a 0 to 9 at |;");
        fault(1, "track a 0 to 9|;");
        fault(1, "track a 0 to 9 at 3|,");
        fault(1, "track a 0 to 1 |+ 1 at 0;");
        fault(1, "track a 0 to |x at 0;");
    }

    static void section1PhaseOfOneAct() {
        sentence("Section 1", "\"phase\" name \":\" name { \",\" name } \";\"");
        good("phase p:x;act x do end win 1;");
        good("phase p:x,x,x,x,x,x,x,x,x,x,x,x,x,x;act x do end win 1;");
        good("phase p:" + items("%c,", 11) + "l;" + items("act %c do end ", 12).replace("act p", "act pp") + "win 1;");
        fault(1, "phase p:|;");
        fault(1, "phase p|;");
        fault(1, "phase p: x,|;");
        fault(1, "phase p: x,|,x;");
        fault(1, "phase p: x |y;");
        fault(1, "phase p: |1;");
        fault(1, "phase p: x|");
        fault(1, "phase p: x |act");
    }

    static void section1BodyWithoutWhen() {
        sentence("Section 1", "body = [ \"when\" expression ] \"do\" { statement } \"end\"");
        good("phase p:x;act x do end reply y do end rule r at p do end win 1;");
        good("phase p:x;act x when 1 do end reply y when 1 do end rule r at p when 1 do end win 1;");
        good("phase p:x;act x do skip; end reply y do skip; skip; end rule r at p do skip; skip; skip; end win 1;");
        fault(1, "act x when |do end");
        fault(1, "act x when 1 |when 1 do end");
        fault(1, "act x |end");
        fault(1, "act x when 1 |end");
        fault(1, "act x do |do end");
        fault(1, "act x do |; end");
        fault(1, "act x do skip; |");
        fault(1, "reply x |at p do end");
        fault(1, "rule x |do end");
        fault(1, "rule x |when 1 do end");
        fault(1, "rule x at p |at p do end");
        fault(1, "act x do end |end");
        fault(1, "phase |when: x;");
        fault(1, "win 1 |do end");
    }

    static void section1BodiesOfAllItems() {
        sentence("Section 1", "( \"act\" | \"reply\" ) name body | \"rule\" name \"at\" name body");
        // As many acts, replies and rules as there can be, each with a when and with statements of its own.
        StringBuilder text = new StringBuilder();
        for (int i = 0; i < 12; i++) {
            text.append("act a" + i + " when them = " + i % 2 + " do set s " + (100 + i) + ";end ");
        }
        for (int i = 0; i < 8; i++) {
            text.append("reply r" + i + " when them = " + i % 2 + " do set s " + (200 + i) + ";end ");
        }
        String program = "pool s 0 to 999 at 0;phase p:a0,a1,a2,a3,a4,a5,a6,a7,a8,a9,a10,a11;" + text;
        RuleStack x = good(program + "win 0;");
        for (int i = 0; i < 12; i++) {
            run(x, "begin 2 0 = 0\nact " + i + " " + (1 - i % 2) + " = ISE\nact " + i + " " + i % 2 + " = 1\npass = 0\npool 0 = " + (100 + i));
        }
        RuleStack y = good(program + "win 0;");
        for (int i = 0; i < 8; i++) {
            run(y, "begin 2 0 = 0\nact 0 0 = 1\nreply " + i + " " + (1 - i % 2) + " = ISE\nreply " + i + " " + i % 2 + " = 2\npass = 0\npool 0 = "
                + (200 + i));
        }
    }

    static void section1RulesBesideActs() {
        sentence("Section 1", "\"rule\" name \"at\" name body");
        StringBuilder text = new StringBuilder("pool s 0 to 99 at 0;pool o 0 to 999 at 0;phase p:a0,a4,a11;win 0;");
        for (int i = 0; i < 12; i++) {
            text.append("act a" + i + " do set o " + (100 + i) + ";end ");
        }
        for (int i = 0; i < 8; i++) {
            text.append("rule u" + i + " at p when s=" + (i + i / 4) + " do add s 1;end ");
        }
        for (int i = 0; i < 8; i++) {
            text.append("reply r" + i + " do set o " + (200 + i) + ";end ");
        }
        // The fifth rule finds no 5 there at the first time: the four ahead of it made 4.
        RuleStack x = good(text.toString());
        run(x, "begin 2 0 = 0\npool 0 = 4\npool 1 = 0");
        for (int act : new int[] {0, 4, 11}) {
            run(x, "act " + act + " 0 = 1\nreply 7 0 = 2\npass = 0\npool 1 = 207\npass = 0\npool 1 = " + (100 + act) + "\npool 0 = 4");
        }
    }

    static void section1Statements() {
        sentence("Section 1", "statement = ( \"set\" | \"add\" ) place expression \";\" | \"if\" expression \"then\" { statement } "
            + "[ \"else\" { statement } ] \"end\" | \"all\" { statement } \"end\" | \"cancel\" \";\" | \"again\" \";\" | \"skip\" \";\"");
        String head = "track t 0 to 9 at 0; pool u 0 to 9 at 0; phase p:x;win 1;act x do ";
        good(head + "set my t 1; add their t 1; set u 1; add u 1; end");
        good(head + "if 1 then end if 1 then else end if 1 then skip; else skip; skip; end all end all skip; skip; end end");
        good(head + "cancel; again; skip; end");
        fault(1, head + "set my t |; end");
        fault(1, head + "set |1; end");
        fault(1, head + "set my |their t 1; end");
        fault(1, head + "set t 1 |end");
        fault(1, head + "set t 1|, 1; end");
        fault(1, head + "if |then end end");
        fault(1, head + "if 1 |end end");
        fault(1, head + "if 1 |else end end");
        fault(1, head + "if 1 then else |else end end");
        fault(1, head + "if 1 then end |else end end");
        fault(1, head + "all |else end end");
        fault(1, head + "all |1 end end");
        fault(1, head + "all end end |skip;");
        fault(1, head + "cancel |1; end");
        fault(1, head + "again |again; end");
        fault(1, head + "skip|: end");
        fault(1, head + "|u 1; end");
        fault(1, head + "|win 1; end");
    }

    static void section1OneRelation() {
        sentence("Section 1", "relation = sum [ ( \"=\" | \"<>\" | \"<\" | \">\" | \"<=\" | \">=\" ) sum ]");
        for (String one : new String[] {"=", "<>", "<", ">", "<=", ">="}) {
            good(REST + "win 1 " + one + " 2;");
            good(REST + "win (1 " + one + " 2) " + one + " 3;");
            good(REST + "win 1 " + one + " 2 and 2 " + one + " 3 or 3 " + one + " 4;");
            for (String other : new String[] {"=", "<>", "<", ">", "<=", ">="}) {
                fault(1, "win 1 " + one + " 2 |" + other + " 3;");
                fault(1, "win 1 " + one + " |" + other + " 3;");
            }
            fault(1, "win 1 " + one + "|;");
            fault(1, "win |" + one + " 1;");
        }
    }

    static void section1ItemsOfTheirForm() {
        sentence("Section 1", "item = ( \"track\" | \"pool\" ) name whole \"to\" whole \"at\" whole \";\"");
        for (String kind : new String[] {"track", "pool"}) {
            good(kind + " a 0 to 1 at 0;" + REST + "win 1;");
            fault(1, kind + " |0 to 1 at 0;");
            fault(1, kind + " a |a 0 to 1 at 0;");
            fault(1, kind + " a 0 |at 1 to 0;");
            fault(1, kind + " a 0 to 1 |to 0;");
            fault(1, kind + " a 0 to 1 at 0 |0;");
            fault(1, kind + " a 0 to 1 at 0 |end");
            fault(1, kind + " a|: 0 to 1 at 0;");
        }
        fault(1, "track a 0 to 1 |;");
        fault(1, "reply |1 do end");
        fault(1, "rule r at |1 do end");
        fault(1, "win 1 |end");
    }

    static void section1NoneOrMoreOperators() {
        sentence("Section 1", "expression = both { \"or\" both } both = relation { \"and\" relation }");
        for (String one : new String[] {"or", "and"}) {
            good(REST + "win 1;");
            good(REST + "win 1 " + one + " 0;");
            good(REST + "win 1" + (" " + one + " 0").repeat(100) + ";");
            fault(1, "win |" + one + " 1;");
            fault(1, "win 1 " + one + "|;");
            fault(1, "win 1 " + one + " |" + one + " 1;");
        }
        yields("1 or 0 and 0 or 0", 1);
        yields("(1 or 0) and 0 or 0", 0);
        yields("0 and 0 or 1", 1);
        yields("0 and (0 or 1)", 0);
    }

    static void section1NoneOrMoreSums() {
        sentence("Section 1", "sum = product { ( \"+\" | \"-\" ) product } product = factor { ( \"*\" | \"/\" | \"%\" ) factor }");
        for (String one : new String[] {"+", "-", "*", "/", "%"}) {
            good(REST + "win 7 " + one + " 2;");
            good(REST + "win 7" + (one + " 2").repeat(100) + ";");
            fault(1, "win 1 " + one + "|;");
            fault(1, "win 1 " + one + " |* 1;");
            fault(1, "win 1 " + one + " |or 1;");
            if (!one.equals("-")) {
                fault(1, "win |" + one + " 1;");
                fault(1, "win 1 + |" + one + " 1;");
            }
        }
        yields("1" + " + 1".repeat(200), 201);
        yields("1" + " - 1".repeat(200), -199);
        yields("0" + " - 2 * 3".repeat(100), -600);
    }

    static void section1Places() {
        sentence("Section 1", "place = \"my\" name | \"their\" name | name");
        String head = "track t 0 to 9 at 0; pool u 0 to 9 at 0;" + REST;
        good(head + "win my t + their t + u;");
        fault(1, head + "win my|;");
        fault(1, head + "win their|;");
        fault(1, head + "win my |my t;");
        fault(1, head + "win my |(t);");
        fault(1, head + "win u |t;");
        fault(1, head + "win my t |their t;");
        fault(1, head + "act y do set |(u) 1; end");
    }

    static void section1Factors() {
        sentence("Section 1", "factor = number | place | \"round\" | \"depth\" | \"me\" | \"them\" | \"players\" | "
            + "\"(\" expression \")\" | ( \"-\" | \"not\" | \"die\" ) factor");
        for (String one : new String[] {"1", "round", "depth", "me", "them", "players", "(1)", "-1", "not 1", "(1 or 1)"}) {
            good(REST + "win " + one + ";");
            good(REST + "win - " + one + " * not " + one + ";");
        }
        fault(1, "win (|);");
        fault(1, "win (1|;");
        fault(1, "win (1 |2);");
        fault(1, "win 1|);");
        fault(1, "win -|;");
        fault(1, "win not|;");
        fault(1, "win die|;");
        fault(1, "win - |+ 1;");
        fault(1, "win |+1;");
        fault(1, "win 1 |not 1;");
        fault(1, "win 1 |round;");
        fault(1, "win 1 |(2);");
        fault(1, "win my |round;");
        fault(1, "win |,;");
    }

    static void section1LevelsGroupFromTheLeft() {
        sentence("Section 1", "Operators of one level group from the left.");
        yields("10 - 3 - 2", 5);
        yields("10 - 3 + 2", 9);
        yields("100 / 10 / 5", 2);
        yields("100 / 10 * 5", 50);
        yields("100 % 30 % 4", 2);
        yields("100 * 7 % 9", 7);
        yields("2 + 3 * 4", 14);
        yields("2 * 3 + 4", 10);
        yields("1 + 1 = 2 and 0 = 0 or 0", 1);
        yields("1 or 0 and 0", 1);
        yields("- 7 / 2 * 2", -6);
    }

    static void section1RelationsYield1Or0() {
        sentence("Section 1", "A relation, and, or, not yield 1 or 0; a number other than 0 is true.");
        yields("4 = 4", 1);
        yields("3 = 4", 0);
        yields("3 <> 4", 1);
        yields("4 <> 4", 0);
        yields("3 < 4", 1);
        yields("4 < 4", 0);
        yields("5 > 4", 1);
        yields("4 > 4", 0);
        yields("4 <= 4", 1);
        yields("5 <= 4", 0);
        yields("4 >= 4", 1);
        yields("3 >= 4", 0);
        yields("2 and -2", 1);
        yields("2 and 0", 0);
        yields("0 and 2", 0);
        yields("0 or -2", 1);
        yields("7 or 0", 1);
        yields("0 or 0", 0);
        yields("not 0", 1);
        yields("not 1", 0);
        yields("not -1", 0);
        yields("not 7", 0);
        yields("not not 7", 1);
        // What is true in its upper 32 bits alone is true, too.
        yields("not (4096 * 4096 * 256)", 0);
        yields("4096 * 4096 * 256 and 1", 1);
        yields("4096 * 4096 * 256 or 0", 1);
        branches("0", 2);
        branches("1", 1);
        branches("-1", 1);
        branches("4096 * 4096 * 256", 1);
    }

    private static void branches(String condition, int want) {
        RuleStack x = good("pool s 0 to 9 at 0;phase p:x;win 0;act x do if " + condition + " then set s 1; else set s 2; end end");
        run(x, "if " + condition, "begin 2 0 = 0\nact 0 0 = 1\npass = 0\npool 0 = " + want);
    }

    static void section1BothOperandsReckoned() {
        sentence("Section 1", "Both operands are always reckoned, the left one first.");
        for (String operation : new String[] {"0 and die 6", "1 or die 6", "0 * die 6", "die 6 and 0", "die 6 or 1", "0 / die 6",
            "0 < die 6"}) {
            RuleStack x = good("pool a 0 to 1 at 0;phase p:x;win 0;act x do set a " + operation + "; end");
            run(x, operation, "begin 2 7 = 0\nact 0 0 = 1\npass = 0\nz = 9098160460397411210");
        }
        RuleStack x = good("pool a 0 to 999 at 0;phase p:x;win 0;act x do set a die 6 * 100 + die 1000 % 100; end");
        run(x, "begin 2 7 = 0\nact 0 0 = 1\npass = 0");
        long first = 7 * 6364136223846793005L + 1442695040888963407L;
        long second = first * 6364136223846793005L + 1442695040888963407L;
        long want = (1 + (first >>> 33) % 6) * 100 + (1 + (second >>> 33) % 1000) % 100;
        run(x, "pool 0 = " + want);
    }

    // ---- depth, nesting, tokens

    static void section1DepthAtMost8() {
        sentence("Section 1", "It may be at most 8. Nesting.");
        for (String before : new String[] {"", "act y when ", "reply y when ", "rule y at p when "}) {
            for (String one : new String[] {"(", "-", "not "}) {
                deep(before.isEmpty() ? "win " : "win 1;" + before, one, before.isEmpty() ? ";" : " do end");
            }
        }
        for (String statement : new String[] {"set a ", "add a ", "set my b ", "add their b ", "if "}) {
            for (String one : new String[] {"(", "-", "not ", "die "}) {
                deep("pool a 0 to 9 at 0;track b 0 to 9 at 0;win 1;act y do " + statement, one,
                    statement.equals("if ") ? " then end end" : "; end");
            }
        }
        fault(1, "win (-(not (-(- |(1)))));");
        good(REST + "win (-(not (-(-1)))) + (-(not (-(- 1))));");
    }

    private static void deep(String before, String one, String behind) {
        for (int depth = 7; depth <= 8; depth++) {
            String closed = one.equals("(") ? ")".repeat(depth) : "";
            good("phase p:x;act x do end " + before + one.repeat(depth) + "1" + closed + behind);
        }
        fault(1, before + one.repeat(8) + "|" + one + "1");
        for (String last : new String[] {"(", "-", "not ", "die "}) {
            fault(1, before + one.repeat(8) + "|" + last + "1");
            if (!last.equals("die ")) {
                good("phase p:x;act x do end " + before + one.repeat(7) + last + "1" + (last.equals("(") ? ")" : "")
                    + (one.equals("(") ? ")".repeat(7) : "") + behind);
            }
        }
    }

    static void section1DepthFrom0() {
        sentence("Section 1", "It is 0 at the beginning of an expression, and 1 greater between a \"(\" in it and its \")\", "
            + "and for the operand of a \"-\" (in front), \"not\" or \"die\".");
        String eight = "((((((((1))))))))";
        good("pool a 0 to 9 at 0;" + REST + "act y when " + eight + " do set a " + eight + "; add a " + eight + "; if " + eight
            + " then set a " + eight + "; end end win " + eight + ";");
        // Behind the ")" and behind the operand it is less again.
        good(REST + "win " + eight + " + " + eight + " * " + eight + " = " + eight + " and " + eight + " or " + eight + ";");
        good(REST + "win --------1 + --------1 * not not not not not not not not 1;");
        good(REST + "win (((((((1) + (1)) + (1)) + (1)) + (1)) + (1)) + (1)) + (1);");
        good(REST + "win (((((((-1 + -1)))))));");
        fault(1, "win ((((((((1) + 1) + (1) + 1) + (((|(1");
        fault(1, "win ((((((((1 + |-1");
        good(REST + "win ((((((((1 - 1 - 1))))))));");
        good("track a -1 to 1 at -1;" + REST + "win ((((((((my a - 1))))))));");
        // The operand of a sign in front is a factor: what follows an operator is not deeper.
        good(REST + "win -------(1) - (((((((1)))))));");
        fault(1, "win -------(|(1));");
    }

    static void section1NestingAtMost4() {
        sentence("Section 1", "It is 1 greater within an if or an all; it may be at most 4.");
        for (String body : new String[] {"act y do ", "reply y do ", "rule y at p do "}) {
            for (String one : new String[] {"if 1 then ", "all ", "if 1 then else ", "if 1 then skip; else "}) {
                for (String last : new String[] {"if 1 then ", "all "}) {
                    good(REST + "win 1;" + body + one.repeat(3) + last + "skip; " + "end ".repeat(4) + "end");
                    fault(1, REST + "win 1;" + body + one.repeat(4) + "|" + last + "end ".repeat(6));
                }
            }
        }
        // It is less again behind the end, and 0 at the beginning of a body.
        String four = "all if 1 then all if 1 then skip; else skip; end end end end ";
        good(REST + "win 1; act y do " + four + four + "end reply z do " + four + "end rule r at p do " + four + "end");
        good(REST + "win 1; act y do all all all if 1 then end if 1 then end all end end all end end if 1 then else all end end end end");
        fault(1, "act y do all all all if 1 then end all |all end end end end end end");
        fault(1, "act y do all if 1 then all end else all if 1 then |all");
    }

    static void section1AtMost450Tokens() {
        sentence("Section 1", "A program has at most 450 tokens.");
        // 11 tokens ahead of the statements, two each, and the end.
        String head = "phase p:x;win 1;act x do ";
        good(head + "skip;".repeat(218) + " end");
        good(head + "skip;".repeat(219) + " end");
        good(head + "skip;".repeat(219) + " end \n");
        fault(1, head + "skip;".repeat(219) + " end |win");
        fault(1, head + "skip;".repeat(219) + " skip|;");
        fault(1, head + "skip;".repeat(219) + " set |x");
        // An odd number of tokens ahead: 449 and 450.
        String odd = "phase p:x;win -1;act x do ";
        good(odd + "skip;".repeat(218) + " end");
        fault(1, odd + "skip;".repeat(219) + "|end");
        fault(1, odd + "skip;".repeat(219) + "|");
    }

    static void section1All450TokensAreDone() {
        sentence("Section 1", "A program has at most 450 tokens.");
        // 19 tokens ahead of the statements, four each, two for the skip, and the end.
        String head = "pool a 0 to 999 at 0;phase p:x;win 0;act x do ";
        RuleStack x = good(head + "add a 1;".repeat(106) + "skip;add a 500;end");
        run(x, "begin 2 0 = 0\nact 0 0 = 1\npass = 0\npool 0 = 606\ntold 1 = 1");
        fault(1, head + "add a 1;".repeat(106) + "skip;add a 500;skip|;end");
        RuleStack y = good(head + "add a 1" + "+1".repeat(213) + ";end");
        run(y, "begin 2 0 = 0\nact 0 0 = 1\npass = 0\npool 0 = 214");
        // All that waits at the greatest depth: five operands at each.
        for (int innermost = 0; innermost <= 1; innermost++) {
            RuleStack deep = good("pool a 0 to 9 at 5;phase p:x;win 0;act x do set a " + "0 or 1 and 1 = 0 + 1 * (".repeat(8)
                + "0 or 1 and 1 = 0 + 1 * " + innermost + ")".repeat(8) + "; end");
            run(deep, "begin 2 0 = 0\nact 0 0 = 1\npass = 0\npool 0 = " + innermost);
        }
    }

    static void section1DeepestLoopsAreDone() {
        sentence("Section 1", "Nesting. It is 1 greater within an if or an all; it may be at most 4.");
        // The dearest act: of four players, 256 times 50 statements with a die of a die of a die, of a die.
        String statement = "set a die die die die 1;";
        RuleStack x = good("pool a 0 to 9 at 0;phase p:x;win 0;act x do all all all all " + statement.repeat(50) + "end end end end end");
        run(x, "begin 4 5 = 0\nact 0 0 = 1\npass = 0\npass = 0\npass = 0\npool 0 = 1");
        long z = 5;
        for (int i = 0; i < 256 * 50 * 4; i++) {
            z = z * 6364136223846793005L + 1442695040888963407L;
        }
        run(x, "z = " + z);
    }

    // ---- errors of form

    static void section1FirstWrongToken() {
        sentence("Section 1", "Error 1: the first token with which the tokens so far are not the beginning of a program.");
        fault(1, "win 1 |win 2 win 3;");
        fault(1, "win |_ abcdefghi 12345 ~");
        fault(1, "win 1 + |; abcdefghi");
        fault(1, "win 1; act x do skip |end");
        fault(1, "win 1; act x do skip; end |x");
    }

    static void section1TooLongWordOrNumber() {
        sentence("Section 1", "a word or number that is too long");
        fault(1, "win |abcdefghi;");
        fault(1, "win |abcdefghi");
        fault(2, "win |abcdefgh;");
        fault(1, "win 1 + |12345;");
        fault(7, "win 1 + 1234;|");
        // Also where no word or number could stand.
        fault(1, "win 1 |abcdefghi");
        fault(1, "win 1 |12345");
    }

    static void section1EndOfTape() {
        sentence("Section 1", "the end of the tape (at its length)");
        String[] tokens = ("track a - 1 to 1 at 0 ; pool b 0 to 1 at 0 ; phase p : x , x ; act x when not b do set my a b ; "
            + "add b 1 ; if b then skip ; else all cancel ; end end again ; end reply y do end rule r at p do end "
            + "win ( 1 + 2 ) * my a < die 3 ;").split(" ");
        StringBuilder text = new StringBuilder();
        for (int i = 0; i < tokens.length - 1; i++) {
            text.append(tokens[i]);
            String next = i + 1 < tokens.length ? tokens[i + 1] : "";
            boolean whole = "track pool phase act reply rule win".contains(next) && (tokens[i].equals(";") || tokens[i].equals("end"));
            if (!whole) {
                fault(1, text + "|");
                fault(1, text + " \n|");
            } else {
                due("no error 1 for " + text, "" + compiled(new RuleStack(), text.toString()).startsWith("1 "), "false");
            }
            text.append(" ");
        }
    }

    static void section1TooDeepPosition() {
        sentence("Section 1", "the \"(\", \"-\", \"not\" or \"die\" behind which the depth would be 9");
        fault(1, "win ((((((((|(1");
        fault(1, "win ((((((((|-1");
        fault(1, "win ((((((((|not 1");
        fault(1, "win ((((((((|die 1");
        fault(1, "win --------|(");
        fault(1, "win --------|-");
        fault(1, "win --------|not");
        fault(1, "win --------|die");
        fault(1, "win not not not not not not not not |(");
        fault(1, "win die die die die die die die die |die");
        fault(1, "win ((((((((|;");
        fault(1, "win ((((((((1|;");
    }

    static void section1TooNestedPosition() {
        sentence("Section 1", "the if or all within which the nesting would be 5");
        fault(1, "act x do all all all all |all");
        fault(1, "act x do all all all all |if");
        fault(1, "act x do all all all all skip; |if 1");
        fault(1, "act x do if 1 then if 1 then if 1 then if 1 then |all end");
        fault(1, "act x do if 1 then if 1 then if 1 then if 1 then |if 1 then end");
        fault(1, "act x do all all all all |then");
    }

    static void section1Token451() {
        sentence("Section 1", "the token that would be the 451st. The position is that of its first byte.");
        String head = "phase p:x;win 1;act x do ";
        String whole = head + "skip;".repeat(219) + " end";
        fault(1, whole + " |win 1;");
        fault(1, whole + "  \n |act");
        fault(1, whole + " |;");
        fault(1, whole + "|\u00ff");
        fault(1, whole + " |abcdefghij");
        fault(1, whole + " |12345");
        fault(1, head + "skip;".repeat(219) + "skip |skip");
        fault(1, head + "skip;".repeat(219) + "skip |end");
        // The 450th is wrong by itself; so is one far ahead.
        fault(1, head + "skip;".repeat(219) + "|;end");
        fault(1, head + "|;" + "skip;".repeat(230));
    }

    // ---- errors of meaning

    static void section1MeaningOnlyWithoutErrorOfForm() {
        sentence("Section 1", "Only if there is no error of form, the meaning is looked at");
        fault(2, "win |x;");
        fault(1, "win x; |;");
        fault(1, "win x; win |");
        fault(3, "act x do end act |x do end");
        fault(1, "act x do end act x do end |end");
        fault(5, "track a |1000 to 0 at 0;");
        fault(1, "track a 1000 to 0 at 0; |x");
        fault(6, "win |die 6;");
        fault(1, "win die 6; |die");
        fault(4, "win 1; |win 1;");
        fault(1, "win 1; win 1; win|");
    }

    static void section1FirstOfTheErrors() {
        sentence("Section 1", "item by item, in each from left to right: the first of these errors (of two at one place the one with the smaller number)");
        fault(2, "win |x + die 6;");
        fault(6, "win |die x;");
        fault(6, "win |die 6; win x;");
        fault(2, "win |x; win die 6;");
        fault(3, "act x do end act |x when die 6 do set y 1; end");
        fault(6, "act x when |die 6 do set y 1; end act x do end");
        fault(5, "track a 1 to |0 at 9; track a 0 to 1 at 0;");
        fault(3, "track a 0 to 1 at 0; track |a 1 to 0 at 9;");
        fault(4, items("track %c 0 to 1 at 0; ", 6) + "|track a 1000 to 1 at 0;");
        fault(3, items("track %c 0 to 1 at 0; ", 5) + "track |a 1000 to 1 at 0;");
        fault(2, "phase p: |y; phase p: x;");
        fault(3, "phase p: x; phase |p: y; act x do end");
        fault(2, "act x do end rule x1 at |q when die 6 do end");
        fault(3, "act x do end rule |x at q when die 6 do end");
    }

    static void section1Error2My() {
        sentence("Section 1", "a name behind my or their that is no track told ahead");
        for (String whose : new String[] {"my ", "their "}) {
            good("track a 0 to 1 at 0;" + REST + "win " + whose + "a;");
            good("track a 0 to 1 at 0;" + REST + "win 1; act y when " + whose + "a do set " + whose + "a " + whose + "a; end");
            fault(2, REST + "win " + whose + "|a; track a 0 to 1 at 0;");
            fault(2, "pool a 0 to 1 at 0;" + REST + "win " + whose + "|a;");
            fault(2, REST + "win " + whose + "|x;");
            fault(2, REST + "win " + whose + "|p;");
            fault(2, "track a 0 to 1 at 0; win " + whose + "|b;");
            fault(2, "act x do set " + whose + "|a 1; end track a 0 to 1 at 0;");
            fault(2, "act x do add " + whose + "|a 1; end track a 0 to 1 at 0;");
            fault(2, "act x do if " + whose + "|a then end end track a 0 to 1 at 0;");
            fault(2, "act x when " + whose + "|a do end track a 0 to 1 at 0;");
        }
    }

    static void section1Error2Alone() {
        sentence("Section 1", "one alone in an expression or behind set or add that is no pool told ahead");
        good("pool a 0 to 1 at 0;" + REST + "win a;");
        good("pool a 0 to 1 at 0;" + REST + "win 1; act y when a do set a a; add a a; if a then end end");
        fault(2, REST + "win |a; pool a 0 to 1 at 0;");
        fault(2, "track a 0 to 1 at 0;" + REST + "win |a;");
        fault(2, REST + "win |x;");
        fault(2, REST + "win |p;");
        fault(2, "pool a 0 to 1 at 0; win a + |b;");
        fault(2, "act x do set |a 1; end pool a 0 to 1 at 0;");
        fault(2, "act x do add |a 1; end pool a 0 to 1 at 0;");
        fault(2, "act x do if |a then end end pool a 0 to 1 at 0;");
        fault(2, "act x when (-|a) do end pool a 0 to 1 at 0;");
        fault(2, "track a 0 to 1 at 0; act x do set |a 1; end");
        fault(2, "track a 0 to 1 at 0; act x do add |a 1; end");
        fault(2, "reply a do end act x do set |a 1; end");
    }

    static void section1Error2Phase() {
        sentence("Section 1", "in a phase a name that is no act (wherever it stands)");
        good("phase p: x; act x do end win 1;");
        good("act x do end phase p: x; win 1;");
        good("phase p: x, y; win 1; act y do end act x do end");
        fault(2, "phase p: |x; win 1;");
        fault(2, "act x do end phase p: x, |y; win 1;");
        fault(2, "act x do end phase p: x, |y, z; reply y do end win 1;");
        fault(2, "phase p: |p; act x do end win 1;");
        fault(2, "track t 0 to 1 at 0; phase p: |t; act x do end");
        fault(2, "pool t 0 to 1 at 0; phase p: |t; act x do end");
        fault(2, "rule t at p do end phase p: |t; act x do end");
        fault(2, "phase p: x; act x do end phase q: |p; win 1;");
    }

    static void section1Error2Rule() {
        sentence("Section 1", "behind the at of a rule no phase (wherever it stands)");
        good(REST + "rule r at p do end win 1;");
        good("rule r at p do end win 1;" + REST);
        fault(2, REST + "rule r at |q do end win 1;");
        fault(2, REST + "rule r at |x do end win 1;");
        fault(2, REST + "rule r at |r do end win 1;");
        fault(2, "track t 0 to 1 at 0;" + REST + "rule r at |t do end win 1;");
        fault(2, REST + "reply t do end rule r at |t do end win 1;");
    }

    static void section1Error3() {
        sentence("Section 1", "Error 3 (at the name): an item's name that another item ahead has already.");
        String[] kinds = {"track %s 0 to 1 at 0;", "pool %s 0 to 1 at 0;", "phase %s: y;", "act %s do end ", "reply %s do end ",
            "rule %s at p do end "};
        String head = "phase p: y; act y do end ";
        for (String first : kinds) {
            for (String second : kinds) {
                String one = head + first.formatted("n");
                int name = second.indexOf('%');
                fault(3, one + second.substring(0, name) + "|n" + second.substring(name + 2) + "win 1;");
                good(one + second.formatted("m") + "win 1;");
                good(one + second.formatted("n1") + "win 1;");
            }
        }
        fault(3, "act y do end phase |y: y;");
        fault(3, head + "act |p do end");
    }

    static void section1Error4() {
        sentence("Section 1", "Error 4 (at the first token of the item): a 7th track, a 7th pool, a 7th phase, a 13th act, "
            + "a 9th reply, a 9th rule, a second win.");
        String[] kinds = {"track ?%c 0 to 1 at 0; ", "pool ?%c 0 to 1 at 0; ", "phase ?%c: x; ", "act ?%c do end ",
            "reply ?%c do end ", "rule ?%c at p do end "};
        int[] most = {6, 6, 6, 12, 8, 8};
        for (int kind = 0; kind < 6; kind++) {
            String item = kinds[kind].replace("?", "n");
            String head = kind == 2 ? "act x do end " : kind == 3 ? "phase p:na; " : REST + "";
            good(head + items(item, most[kind]) + "win 1;");
            fault(4, head + items(item, most[kind]) + "|" + item.replace("%c", "z") + "win 1;");
            fault(4, head + items(item, most[kind]) + "win 1; |" + item.replace("%c", "a"));
        }
        good(REST + "win 1;");
        fault(4, REST + "win 1; |win 1;");
        fault(4, REST + "win 1; |win x + die 6;");
        // All of them at once.
        good(items("track t%c 0 to 1 at 0;", 6) + items("pool u%c 0 to 1 at 0;", 6) + items("phase v%c:aa;", 6)
            + items("act a%c do end ", 12) + items("reply r%c do end ", 8) + items("rule s%c at va do end ", 8) + "win 1;");
    }

    static void section1Error5First() {
        sentence("Section 1", "the first whole of a track or pool is not -999 to 999");
        for (String kind : new String[] {"track a ", "pool a "}) {
            good(kind + "-999 to 999 at 0;" + REST + "win 1;");
            good(kind + "999 to 999 at 999;" + REST + "win 1;");
            good(kind + "-998 to 999 at 0;" + REST + "win 1;");
            fault(5, kind + "-|1000 to 999 at 0;");
            fault(5, kind + "|1000 to 999 at 0;");
            fault(5, kind + "|1000 to 1000 at 1000;");
            fault(5, kind + "-|9999 to 0 at 0;");
            fault(5, kind + "- |1000 to 0 at 0;");
        }
    }

    static void section1Error5Second() {
        sentence("Section 1", "the second one is less than the first one, or greater than 999");
        for (String kind : new String[] {"track a ", "pool a "}) {
            good(kind + "0 to 999 at 0;" + REST + "win 1;");
            fault(5, kind + "0 to |1000 at 0;");
            fault(5, kind + "0 to |9999 at 0;");
            good(kind + "5 to 5 at 5;" + REST + "win 1;");
            fault(5, kind + "5 to |4 at 5;");
            fault(5, kind + "0 to -|1 at 0;");
            good(kind + "-5 to -5 at -5;" + REST + "win 1;");
            fault(5, kind + "-5 to -|6 at -5;");
            good(kind + "-999 to -999 at -999;" + REST + "win 1;");
            fault(5, kind + "-999 to -|1000 at -999;");
            fault(5, kind + "5 to |0 at 9;");
        }
    }

    static void section1Error5Third() {
        sentence("Section 1", "the third one is less than the first one, or greater than the second one");
        for (String kind : new String[] {"track a ", "pool a "}) {
            good(kind + "2 to 5 at 2;" + REST + "win 1;");
            fault(5, kind + "2 to 5 at |1;");
            good(kind + "2 to 5 at 5;" + REST + "win 1;");
            fault(5, kind + "2 to 5 at |6;");
            good(kind + "-5 to -2 at -5;" + REST + "win 1;");
            fault(5, kind + "-5 to -2 at -|6;");
            good(kind + "-5 to -2 at -2;" + REST + "win 1;");
            fault(5, kind + "-5 to -2 at -|1;");
            fault(5, kind + "-5 to -2 at |0;");
            good(kind + "-999 to 999 at -999;" + REST + "win 1;");
            fault(5, kind + "-999 to 999 at -|1000;");
            good(kind + "-999 to 999 at 999;" + REST + "win 1;");
            fault(5, kind + "-999 to 999 at |1000;");
        }
        // Of each item its own wholes are looked at.
        good("track a 5 to 9 at 7; track b -9 to -5 at -7; pool c 5 to 9 at 7; pool d -9 to -5 at -7;" + REST + "win 1;");
        fault(5, "track a 5 to 9 at 7; pool b 0 to 3 at |7;");
        fault(5, "pool a 5 to 9 at 7; track b 0 to 3 at |7;");
    }

    static void section1Error6() {
        sentence("Section 1", "Error 6 (at the die): a die in an expression behind when or win.");
        fault(6, "win |die 6;");
        fault(6, "win 1 + (2 * -|die 6);");
        fault(6, "win 1 or |die die 6;");
        fault(6, "act x when |die 6 do end");
        fault(6, "reply x when 1 = |die 6 do end");
        fault(6, "rule r at p when not |die 6 do end phase p: x; act x do end");
        fault(6, "act x do end act y when |die 6 do end");
        fault(6, "act x when 1 do if die 6 then end end act y when |die 6 do end");
        fault(6, "act x do if die 6 then end end win |die 6;");
        good("pool a 0 to 9 at 0;" + REST + "win 1; act y when 1 do set a die 6; add a die 6; if die 6 then end end");
        good("pool a 0 to 9 at 0;" + REST + "win 1; reply y when 1 do set a die 6; end rule r at p when 1 do add a die 6; end");
        good("pool a 0 to 9 at 0; win 1; act x do all set a die 6; end end phase p: x;");
    }

    static void section1Error7() {
        sentence("Section 1", "Error 7 (at the end of the tape): no phase, or no win.");
        good("phase p: x; act x do end win 1;");
        fault(7, "phase p: x; act x do end|");
        fault(7, "phase p: x; act x do end \n |");
        fault(7, "act x do end win 1;|");
        fault(7, "act x do end win 1;   |");
        fault(7, "act x do end|");
        fault(7, "track a 0 to 1 at 0;|");
        fault(2, "act x do end win |y;");
        fault(3, "act x do end act |x do end ");
    }

    // ---- promises 4 and 5

    static void promise4ReturnsEachError() {
        sentence("Promise 4, compile", "Returns 0, or the error, 1 to 7.");
        script("", """
            text win
            compile = 1
            text win x;
            compile = 2
            text act x do end act x do end
            compile = 3
            text win 1; win 1;
            compile = 4
            text track a 1 to 0 at 0;
            compile = 5
            text win die 1;
            compile = 6
            text win 1;
            compile = 7
            text phase p:x;act x do end win 1;
            compile = 0
            """);
    }

    static void promise4GoneInAnyCase() {
        sentence("Promise 4, compile", "The program and the game that were there are gone in any case.");
        String[] next = {"phase q:y;act y do end win 0;", "win", "win x;", "act x do end act x do end", "win 1; win 1;",
            "track a 1 to 0 at 0;", "win die 1;", items("track %c 0 to 1 at 0;", 6) + items("act a%c do end ", 12)};
        for (int error = 0; error <= 7; error++) {
            RuleStack x = good("track a 0 to 9 at 3; pool b 0 to 9 at 4; phase p:x; phase o:x; act x do add b die 6; end "
                + "reply y do end rule r at p do end win 0;");
            run(x, "begin 3 17 = 0\npass = 0\nact 0 0 = 1");
            write(x, next[error]);
            run(x, "compile = " + error);
            int one = error == 0 ? 1 : 0;
            run(x, "counts behind error " + error, """
                count 0 = 0
                count 1 = 0
                count 2 = %d
                count 3 = %d
                count 4 = 0
                count 5 = 0
                count 6 = 0
                count 7 = 0
                count 8 = 0
                count 9 = 0
                state = -1
                told 0 = -1
                told 7 = -1
                z = 0
                moves = 0
                act 0 0 = IOOBE
                reply 0 0 = IOOBE
                pass = ISE
                track 0 0 = IOOBE
                pool 0 = IOOBE
                mean 0 = IOOBE
                stack 0 0 = IOOBE
                move 0 0 = IOOBE
                back 1 = IAE
                back 0 = ISE
                """.formatted(one, one));
            run(x, "begin 2 0 = " + (error == 0 ? "0" : "ISE"));
        }
    }

    static void promise4GreatProgramsOneBehindAnother() {
        sentence("Promise 4, compile", "Compiles the tape as a program.");
        RuleStack x = new RuleStack();
        for (int last = 1; last <= 4; last++) {
            String error = "act y do " + "skip;".repeat(218) + "end end";
            due("compile of a wrong program", compiled(x, error), "1 at " + (error.length() - 3));
            String text = "pool a 0 to 999 at 0;phase p:x;win 0;act x do " + "add a 1;".repeat(106) + "add a " + last + "00;end";
            due("compile of a great program", compiled(x, text), "0 at -1");
            run(x, "begin 2 0 = 0\nact 0 0 = 1\npass = 0\npool 0 = " + (106 + last * 100));
        }
    }

    static void promise4NothingStaysOfTheProgramAhead() {
        sentence("Promise 4, compile", "The program and the game that were there are gone in any case.");
        // The new program has fewer acts in its phase, no whens where there were some, and rules at another phase.
        RuleStack x = good("phase p:x, y, z; phase q:y; act x when 0 do end act y when 0 do end act z do end reply r when 0 do end "
            + "rule s at p when 0 do skip; end rule t at q do end win 1;");
        run(x, "begin 2 0 = 0\nmoves = 3\npass = 1");
        write(x, "pool a 0 to 9 at 0; phase p:y; phase q:x; act x do end act y do end act z do end reply r do end rule s at q do add a 1; end win 0;");
        run(x, """
            compile = 0
            begin 2 0 = 0
            pool 0 = 0
            canAct 0 0 = false
            canAct 1 0 = true
            canAct 2 0 = false
            moves = 3
            act 1 0 = 1
            canReply 0 0 = true
            pass = 0
            pass = 0
            pool 0 = 1
            canAct 0 0 = true
            canAct 1 0 = false
            canAct 2 0 = false
            """);
    }

    static void promise5LatestError() {
        sentence("Promise 5, errorAt", "Returns the position of the error of the latest compile; -1 if it had none, or there was none.");
        script("", """
            errorAt = -1
            compile = 1
            errorAt = 0
            text win 1; _
            errorAt = 0
            compile = 1
            errorAt = 7
            trim 0 = 0
            errorAt = 7
            text phase p:x;act x do end win 1;
            errorAt = 7
            compile = 0
            errorAt = -1
            begin 2 0 = 0
            errorAt = -1
            text act x do end win 1;
            compile = 7
            errorAt = 19
            begin 2 0 = ISE
            errorAt = 19
            """);
    }

    /** What an act's expression yields, in a pool of -999 to 999. */
    private static void yields(String expression, int want) {
        RuleStack x = good("pool a -999 to 999 at 7;phase p:x;act x do set a " + expression + "; end win 0;");
        run(x, expression, "begin 2 7 = 0\nact 0 0 = 1\npass = 0\npool 0 = " + want);
    }
}
