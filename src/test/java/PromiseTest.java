/** Each promise of the document, with ordinary inputs, edges and wrong inputs, told as scripts. */
public final class PromiseTest extends Scripts {
    public static void main(String[] args) {
        newObject();
        feed();
        trim();
        goodPrograms();
        formErrors();
        formLimits();
        unknownNames();
        otherErrors();
        compileForgets();
        counts();
        begin();
        act();
        reply();
        pass();
        turnsAndRounds();
        skipAndAgain();
        rules();
        manyTurns();
        winning();
        statements();
        expressions();
        dice();
        canAndMoves();
        stateAndTold();
        values();
        stackAndMoves();
        back();
        lastMove();
        digests();
        finish();
    }

    // ---- promises 1 to 3

    private static void newObject() {
        RuleStack x = new RuleStack();
        for (int what = 0; what <= 9; what++) {
            due("new count " + what, "" + x.count(what), "0");
        }
        for (int what = 0; what <= 7; what++) {
            due("new told " + what, "" + x.told(what), "-1");
        }
        run(x, "new", """
            errorAt = -1
            state = -1
            moves = 0
            z = 0
            pass = ISE
            begin 2 0 = ISE
            begin 1 0 = IAE
            begin 5 0 = IAE
            back 0 = ISE
            back 1 = IAE
            back -1 = IAE
            act 0 0 = IOOBE
            reply 0 0 = IOOBE
            canAct 0 0 = IOOBE
            canReply 0 0 = IOOBE
            track 0 0 = IOOBE
            pool 0 = IOOBE
            mean 0 = IOOBE
            stack 0 0 = IOOBE
            move 0 0 = IOOBE
            """);
        long d = 419;
        for (int i = 0; i < 20; i++) {
            d = d * 31 + (i < 10 || i == 19 ? 0 : -1);
        }
        due("new digest", "" + x.digest(), "" + d);
    }

    private static void feed() {
        RuleStack x = new RuleStack();
        // "phase a:b;act b do e" and "nd win 1;" with the highest byte first, and another line end behind.
        run(x, "feed", """
            feed 1885888883 1696620858 1648058723 1948279328 1685004389 = 20
            feed 1852055671 1768824881 991961120 538976288 538976266 = 40
            count 6 = 40
            compile = 0
            count 6 = 0
            errorAt = -1
            feed -1 -1 -1 -1 -1 = 20
            compile = 1
            errorAt = 0
            feed 2003398176 -2147483648 0 0 0 = 20
            compile = 1
            errorAt = 4
            """);
        for (int i = 1; i <= 100; i++) {
            run(x, "feed", "feed 538976288 538976288 538976288 538976288 538976288 = " + 20 * i);
        }
        run(x, "feed full", """
            feed 0 0 0 0 0 = ISE
            count 6 = 2000
            trim 1981 = 1981
            feed 0 0 0 0 0 = ISE
            count 6 = 1981
            trim 1980 = 1980
            feed 538976288 538976288 538976288 538976288 538976288 = 2000
            compile = 1
            errorAt = 2000
            """);
    }

    private static void trim() {
        script("trim", """
            trim 0 = 0
            trim 1 = IAE
            trim -1 = IAE
            text phase p: x; act x do end win 1; ~
            count 6 = 33
            trim 34 = IAE
            trim -1 = IAE
            trim 33 = 33
            trim 32 = 32
            count 6 = 32
            compile = 0
            trim 1 = IAE
            text win 1; phase p: x; act x do end
            trim 30 = 30
            compile = 1
            errorAt = 28
            text win 1; phase p: x; act x do end
            trim 27 = 27
            compile = 1
            errorAt = 27
            """);
    }

    // ---- promises 4 and 5

    private static void goodPrograms() {
        good("phase p: x; act x do end win 1;");
        good("phase p:x;act x do end win 1;");
        good("\n \nphase\np : x\n,x ;act x do end win 1 ; \n");
        good("win 1 ;act x do end phase p: x;");
        good("track abcdefgh -999 to 999 at 999; phase p: x; act x do end win my abcdefgh;");
        good("track a 5 to 5 at 5; pool b -0 to 0 at 0; phase p: x; act x do end win b;");
        good("track a 0to 9at 3;phase p:x;act x do add my a 9999;end win my a>=9;");
        good("phase p: x; act x do if 1 then else end all end end win 1;");
        good("phase p: x; act x when 1 do end rule r at p when not 0 do end reply y when 0 do end win 1;");
        good("phase p: x; act x do end win 1 + 2 * 3 % 4 / 5 - 6 <= 7 and 8 <> 9 or 1 = 1 and not 2;");
        good("phase p: x; act x do end win - - not - 3 - -2;");
        good("phase p: x, x, x; act x do end win 0003 =1;");
        good("pool a1 0 to 1 at 0; phase p: x; act x do set a1 12and 3or a1; end win 1;");
        // README.md's program.
        good("track hp 0 to 20 at 10;\nphase main: hit;\nact hit do add their hp 0 - die 6; end\n"
            + "reply block when their hp < 5 do cancel; end\nwin their hp = 0 and players = 2;\n");
        // Names can be those of other words' beginnings, and of any kind where no other item has it.
        good("pool alla 0 to 1 at 0; phase me1: di; act di do set alla 1; end win alla;");
    }

    private static void formErrors() {
        fault(1, "|");
        fault(1, "   |");
        fault(1, "|;");
        fault(1, "|x");
        fault(1, "|when");
        fault(1, "win|");
        fault(1, "win |;");
        fault(1, "win 1|");
        fault(1, "win 1 |2;");
        fault(1, "win 1; |;");
        fault(1, "win 1; |#");
        fault(1, "win 1;|\t");
        fault(1, "win 1;|\r");
        fault(1, "win |X;");
        fault(1, "win |_;");
        fault(1, "win |\u00e9;");
        fault(1, "win 1 = 2 |= 3;");
        fault(1, "win 1 < 2 |<> 3;");
        fault(1, "win 1 =|< 2;");
        fault(1, "win 1 <>|= 2;");
        fault(1, "win 1 < |= 2;");
        fault(1, "win 1 |:= 2;");
        fault(1, "win 1 + |* 2;");
        fault(1, "win |+ 1;");
        fault(1, "win |* 1;");
        fault(1, "win (1|;");
        fault(1, "win 1|);");
        fault(1, "win (|);");
        fault(1, "win die|;");
        fault(1, "win 1 and |or 2;");
        fault(1, "win 1 |not");
        fault(1, "win my |1;");
        fault(1, "win my |me;");
        fault(1, "win my |their x;");
        fault(1, "win |to;");
        fault(1, "track |track 0 to 9 at 3;");
        fault(1, "track |5 0 to 9 at 3;");
        fault(1, "track a |x to 9 at 3;");
        fault(1, "track a |+ 0");
        fault(1, "track a -|-1");
        fault(1, "track a 0 |9 at 3;");
        fault(1, "track a 0|to9at3;");
        fault(1, "track a 0 to 9 |to 3;");
        fault(1, "track a 0 to 9 at|;");
        fault(1, "track a 0 to 9 at 3|:");
        fault(1, "track a 0 to 9 at 3 |track b");
        fault(1, "track a 0 to |(9) at 3;");
        fault(1, "phase p |x;");
        fault(1, "phase p: |;");
        fault(1, "phase p: x |y;");
        fault(1, "phase p: x, |;");
        fault(1, "phase p: x, y|:");
        fault(1, "phase |act: x;");
        fault(1, "act x |add");
        fault(1, "act x when |do end");
        fault(1, "act x do |x");
        fault(1, "act x do |do");
        fault(1, "act x do |else end");
        fault(1, "act x do end|;");
        fault(1, "act x do|");
        fault(1, "act x do set |5 1; end");
        fault(1, "act x do set my y |; end");
        fault(1, "act x do set |me 1; end");
        fault(1, "act x do set y 1 |end");
        fault(1, "act x do cancel |end");
        fault(1, "act x do again |1;");
        fault(1, "act x do if 1 |cancel; end");
        fault(1, "act x do if 1 then cancel; |; end");
        fault(1, "act x do if 1 then else |else end end");
        fault(1, "act x do all |then end end");
        fault(1, "act x do all |do end");
        fault(1, "reply x |at p do end");
        fault(1, "rule r |do end");
        fault(1, "rule r at |do end");
        fault(1, "rule r at p |at q do end");
        // An error of form is told ahead of all others, wherever these are.
        fault(1, "track a 9 to 0 at 0; win my b; win |");
    }

    private static void formLimits() {
        fault(1, "track |abcdefghi 0 to 9 at 3;");
        fault(1, "track |a12345678 0 to 9 at 3;");
        fault(1, "track a |00001 to 9 at 3;");
        fault(1, "win |12345;");
        fault(1, "win 1 |players12;");
        good("phase p:x;act x do end win ((((((((1))))))));");
        fault(1, "win ((((((((|(1)))))))));");
        good("phase p:x;act x do end win --------1;");
        fault(1, "win --------|-1;");
        fault(1, "win not not not not not not not not |not 1;");
        fault(1, "act x do set p die die die die die die die die |die 1;");
        fault(1, "win (-(not (-(- |(1)))));");
        // The depth is less again behind its end.
        good("phase p:x;act x do end win (((((((1))))))) + -(((((((1))))))) - --------1 or ((((((((1))))))));");
        fault(1, "win ((((((((1 + |(2");
        fault(1, "win (((((((-1 + -2 + -|-3");
        String ended = "end end end end end ";
        good("phase p:x;win 1;act x do all all all all cancel; " + ended);
        fault(1, "phase p:x;win 1;act x do all all all all |all cancel; end " + ended);
        fault(1, "phase p:x;win 1;act x do if 1 then all if 1 then else all |if 1");
        good("phase p:x;win 1;act x do if 1 then all if 1 then else all end end all end end if 1 then end end end");
        // 11 tokens, then 2 each, and the end: 450.
        String many = "phase p:x;win 1;act x do ";
        good(many + "skip;".repeat(219) + " end");
        good(many + "skip;".repeat(219) + " end \n ");
        fault(1, many + "skip;".repeat(219) + " end |win");
        fault(1, many + "skip;".repeat(219) + " end |\u00ff");
        fault(1, many + "skip;".repeat(219) + "skip|;");
        fault(1, many + "skip;".repeat(219) + "skip|");
        fault(1, many + "skip;".repeat(219) + "skip |abcdefghijk");
        fault(1, many + "skip;".repeat(219) + "|abcdefghijk");
    }

    private static void unknownNames() {
        fault(2, "phase p: |x;");
        fault(2, "phase p: x, |y; act x do end win 1;");
        fault(2, "phase p: |x; reply x do end win 1;");
        fault(2, "phase p: |p; act x do end win 1;");
        fault(2, "rule r at |q do end phase p: r;");
        fault(2, "rule r at |x do end act x do end");
        fault(2, "rule r at |r do end");
        fault(2, "track a 0 to 9 at 3; win |a;");
        fault(2, "pool a 0 to 9 at 3; win my |a;");
        fault(2, "pool a 0 to 9 at 3; win their |a;");
        fault(2, "win my |b; track b 0 to 9 at 3;");
        fault(2, "win |b; pool b 0 to 9 at 3;");
        fault(2, "act x do set |y 1; end");
        fault(2, "act x do add my |y 1; end");
        fault(2, "act x when |y do end");
        fault(2, "act x do if |y then end end");
        fault(2, "track a 0 to 9 at 3; act x do all set my a |y; end end");
        fault(2, "act x do set |y z; end");
        fault(2, "win (1 + -|x);");
        // Acts and phases can stand behind what names them.
        good("rule r at p do end phase p: x; act x do end win 1;");
    }

    private static void otherErrors() {
        fault(3, "track a 0 to 9 at 3; track |a 0 to 9 at 3;");
        fault(3, "track a 0 to 9 at 3; pool |a 9 to 0 at 3;");
        fault(3, "act x do end reply |x do end");
        fault(3, "act x do end phase |x: y;");
        fault(3, "phase p: x; act x do end rule |p at q do end");
        fault(3, "act x do end act |x when y do end");
        // Whether a name is an act's does not depend on whether the act may have the name.
        fault(3, "track x 0 to 9 at 3; phase p: x; act |x do end win 1;");
        fault(4, items("track %c 0 to 1 at 0; ", 6) + "|track x 0 to 1 at 0; win 1;");
        fault(4, items("pool %c 0 to 1 at 0; ", 6) + "|pool x 9 to 1 at 0; win 1;");
        fault(4, "act z do end " + items("phase %c: z; ", 6) + "|phase a: y;");
        fault(4, items("act %c do end ", 12) + "|act a do end");
        fault(4, items("reply %c do end ", 8) + "|reply x do end");
        fault(4, "phase p: x; act x do end " + items("rule %c at p do end ", 8) + "|rule q at y do end");
        fault(4, "win 1; |win x;");
        good(items("track %c 0 to 1 at 0; ", 6) + "pool u 0 to 1 at 0;pool v 0 to 1 at 0;pool w 0 to 1 at 0;"
            + "pool x 0 to 1 at 0;pool y 0 to 1 at 0;pool z 0 to 1 at 0;"
            + items("act a%c do end ", 12) + items("reply r%c do end ", 8)
            + items("phase p%c: aa; ", 6) + items("rule u%c at pa do end ", 8) + "win 1;");
        fault(5, "track a -|1000 to 9 at 3; win 1;");
        fault(5, "track a |1000 to 9 at 3; win 1;");
        fault(5, "pool a 5 to |4 at 3; win 1;");
        fault(5, "pool a -5 to -|6 at 3; win 1;");
        fault(5, "pool a 0 to |1000 at 3; win 1;");
        fault(5, "pool a 0 to 9 at |10; win 1;");
        fault(5, "pool a 1 to 9 at |0; win 1;");
        fault(5, "pool a 0 to 9 at -|1; win 1;");
        fault(5, "track a |9999 to 0 at 0; track a 0 to 1 at 1;");
        fault(6, "win |die 6; win 1;");
        fault(6, "win 1 + (-|die x);");
        fault(6, "act x when |die 2 = 1 do set y die 6; end");
        fault(6, "act x do if die 2 then end end rule r at p when |die 2 do end phase p: x;");
        fault(2, "win |x + die 6;");
        fault(7, "win 1;|");
        fault(7, "phase p: x; act x do end|");
        fault(7, "act x do end|");
        fault(7, "act x do end \n  |");
        good("phase p: x; act x do if die 2 = 1 then end end rule r at p do if die 6 then end end win 0;");
    }

    private static void compileForgets() {
        script("compile forgets", """
            text track a 0 to 9 at 3; pool b 0 to 9 at 4; phase p: x; act x do end win 0;
            compile = 0
            begin 3 17 = 0
            act 0 0 = 1
            count 6 = 0
            text win
            errorAt = -1
            count 9 = 1
            compile = 1
            errorAt = 3
            count 0 = 0
            count 1 = 0
            count 2 = 0
            count 3 = 0
            count 6 = 0
            count 7 = 0
            count 8 = 0
            count 9 = 0
            state = -1
            told 0 = -1
            z = 0
            moves = 0
            track 0 0 = IOOBE
            pool 0 = IOOBE
            mean 0 = IOOBE
            begin 2 0 = ISE
            back 0 = ISE
            text ~
            errorAt = 3
            trim 0 = 0
            errorAt = 3
            text pool b 0 to 9 at 7; phase p: x; act x do end win 0;
            compile = 0
            errorAt = -1
            pool 0 = 7
            state = -1
            count 0 = 0
            begin 2 1 = 0
            text phase p: x; act x do end win 0;
            compile = 0
            state = -1
            count 7 = 0
            z = 0
            pass = ISE
            act 0 0 = IOOBE
            """);
    }

    // ---- promise 6

    private static void counts() {
        script("count", """
            text track a 0 to 9 at 3; track b 0 to 1 at 1; track c 0 to 1 at 1; track d 0 to 1 at 1;
            text pool e 0 to 9 at 3; pool f 0 to 1 at 1; pool g 0 to 1 at 1;
            text phase p: x; phase q: x; act x do end
            text reply y do end reply y1 do end reply y2 do end reply y3 do end reply y4 do end
            text rule r at q do end rule r1 at q do end rule r2 at q do end rule r3 at q do end
            text rule r4 at q do end rule r5 at q do end win 0;
            count 6 = 385
            compile = 0
            count 0 = 4
            count 1 = 3
            count 2 = 2
            count 3 = 1
            count 4 = 5
            count 5 = 6
            count 6 = 0
            count 7 = 0
            count 8 = 0
            count 9 = 0
            begin 3 0 = 0
            count 7 = 3
            act 0 0 = 1
            reply 2 1 = 2
            pass = 0
            count 7 = 3
            count 8 = 3
            count 9 = 2
            text xy
            count 6 = 2
            count -1 = IOOBE
            count 10 = IOOBE
            count 2147483647 = IOOBE
            count -2147483648 = IOOBE
            """);
    }

    // ---- promise 7

    private static void begin() {
        script("begin", """
            text track a 0 to 9 at 3; pool b 0 to 9 at 4; phase p: x, y; act x do add my a 1; set b 9; end
            text act y do if die 6 then again; skip; end end win my a = 9;
            compile = 0
            begin 1 0 = IAE
            begin 5 0 = IAE
            begin -1 0 = IAE
            begin 0 0 = IAE
            state = -1
            begin 4 -5 = 0
            z = -5
            count 7 = 4
            track 3 0 = 3
            track 0 0 = 3
            pool 0 = 4
            told 0 = 1
            told 1 = 0
            told 2 = 0
            told 3 = -1
            act 0 0 = 1
            pass = 0
            pass = 0
            pass = 0
            pool 0 = 9
            track 0 0 = 4
            act 1 0 = 1
            begin 1 0 = IAE
            count 9 = 1
            begin 2 9 = 0
            count 7 = 2
            count 8 = 0
            count 9 = 0
            told 3 = -1
            told 7 = 0
            pool 0 = 4
            track 0 0 = 3
            track 2 0 = IOOBE
            z = 9
            begin 2 9223372036854775807 = 0
            z = 9223372036854775807
            """);
    }

    // ---- promises 8 to 10

    private static void act() {
        script("act", """
            text track a 0 to 9 at 3; phase p: x, y; phase q: z; act x do end
            text act y when me <> them do set my a 9; end act z do end act w do end win my a = 9;
            compile = 0
            act 0 0 = IOOBE
            begin 3 0 = 0
            act -1 0 = IOOBE
            act 4 0 = IOOBE
            act 0 -1 = IOOBE
            act 0 3 = IOOBE
            act 2147483647 0 = IOOBE
            act 2 0 = ISE
            act 3 0 = ISE
            act 1 0 = ISE
            act 1 2 = 1
            stack 0 0 = 0
            stack 0 1 = 1
            stack 0 2 = 0
            stack 0 3 = 2
            told 3 = 1
            act 0 0 = ISE
            act 0 3 = IOOBE
            act 4 0 = IOOBE
            pass = 0
            pass = 1
            act 0 0 = ISE
            act 0 3 = IOOBE
            begin 3 0 = 0
            pass = 0
            act 0 0 = ISE
            act 2 0 = 1
            """);
    }

    private static void reply() {
        script("reply", """
            text phase p: x; act x do end reply r do end reply s when me = 2 and them = 0 do cancel; end
            text reply t when depth = 2 do end win 0;
            compile = 0
            reply 0 0 = IOOBE
            begin 3 0 = 0
            reply 0 0 = ISE
            reply 3 0 = IOOBE
            reply -1 0 = IOOBE
            reply 0 3 = IOOBE
            reply 0 -1 = IOOBE
            act 0 0 = 1
            told 3 = 1
            reply 1 0 = ISE
            reply 2 0 = ISE
            pass = 0
            told 3 = 2
            reply 1 1 = ISE
            reply 1 0 = 2
            stack 1 0 = 1
            stack 1 1 = 1
            stack 1 2 = 2
            stack 1 3 = 0
            told 3 = 0
            told 7 = 0
            reply 2 2 = 3
            reply 0 0 = 4
            reply 0 1 = 5
            reply 0 2 = 6
            reply 0 0 = 7
            reply 0 1 = 8
            reply 0 2 = 9
            reply 0 0 = 10
            count 9 = 10
            reply 0 0 = ISE
            reply 3 0 = IOOBE
            canReply 0 0 = false
            moves = 1
            told 3 = 2
            pass = 0
            told 3 = 0
            reply 0 0 = ISE
            pass = 0
            count 9 = 9
            told 3 = 1
            reply 0 0 = 10
            """);
        script("reply when over", """
            text pool a 0 to 1 at 0; phase p: x; act x do set a 1; end reply r do end win a;
            compile = 0
            begin 2 0 = 0
            act 0 0 = 1
            reply 0 0 = 2
            pass = 0
            pass = 1
            reply 0 0 = ISE
            reply 1 0 = IOOBE
            """);
    }

    private static void pass() {
        script("pass round the table", """
            text pool d 0 to 9 at 9; pool e 0 to 99 at 0; phase p: x; phase q: x; act x do add e 1; set d depth; end
            text reply no do cancel; set d depth; end reply add1 do add e 10; end win 0;
            compile = 0
            pass = ISE
            begin 4 0 = 0
            act 0 0 = 1
            told 3 = 1
            told 7 = 0
            pass = 0
            told 3 = 2
            told 7 = 1
            pass = 0
            told 3 = 3
            told 7 = 2
            reply 1 0 = 2
            told 3 = 0
            told 7 = 0
            reply 0 0 = 3
            told 3 = 1
            pass = 0
            pass = 0
            told 3 = 3
            told 7 = 2
            pool 0 = 9
            pass = 0
            pool 0 = 1
            pool 1 = 0
            count 9 = 1
            told 3 = 1
            told 7 = 0
            pass = 0
            reply 1 1 = 2
            told 3 = 3
            pass = 0
            pass = 0
            pass = 0
            pool 1 = 10
            count 9 = 1
            told 3 = 1
            pass = 0
            pass = 0
            pass = 0
            pool 0 = 0
            pool 1 = 11
            count 9 = 0
            told 3 = -1
            told 7 = 0
            told 1 = 0
            told 2 = 0
            pass = 0
            told 2 = 1
            told 1 = 0
            pass = 0
            told 2 = 0
            told 1 = 1
            """);
        // More cancels than there are, and cancels of what lies below.
        script("cancel", """
            text phase p: x; act x do cancel; cancel; end reply all3 do cancel; cancel; cancel; cancel; end
            text reply n do cancel; end win 0;
            compile = 0
            begin 2 0 = 0
            act 0 0 = 1
            reply 1 0 = 2
            reply 1 0 = 3
            reply 0 0 = 4
            pass = 0
            count 9 = 0
            told 3 = -1
            act 0 0 = 1
            pass = 0
            count 9 = 0
            act 0 0 = 1
            reply 1 0 = 2
            reply 1 0 = 3
            reply 1 0 = 4
            told 3 = 0
            pass = 0
            count 9 = 2
            told 3 = 0
            pass = 0
            count 9 = 0
            state = 0
            """);
    }

    private static void turnsAndRounds() {
        RuleStack x = good("phase p: x; act x do end win 0;");
        run(x, "rounds", "begin 3 0 = 0");
        for (int i = 0; i < 149; i++) {
            run(x, "rounds", "pass = 0\ntold 1 = " + (i + 1) % 3 + "\ntold 0 = " + (1 + (i + 1) / 3));
            if (i % 20 == 0) {
                x = again(x, i + 1);
            }
        }
        run(x, "rounds", """
            told 0 = 50
            pass = 2
            state = 2
            told 0 = 50
            told 1 = 2
            told 2 = 0
            told 3 = -1
            told 4 = -1
            pass = ISE
            act 0 0 = ISE
            moves = 0
            count 8 = 150
            """);
    }

    // An object is good for 512 calls alone, so the same passes are made on another one.
    private static RuleStack again(RuleStack old, int passes) {
        RuleStack x = good("phase p: x; act x do end win 0;");
        x.begin(3, 0);
        for (int i = 0; i < passes; i++) {
            x.pass();
        }
        due("the same passes", "" + x.digest(), "" + old.digest());
        return x;
    }

    private static void skipAndAgain() {
        script("skip and again", """
            text pool n 0 to 99 at 0; phase p: x, y; phase q: x; act x do skip; end act y do again; again; end
            text reply r do skip; again; end rule u at q do add n 1; end win 0;
            compile = 0
            begin 2 0 = 0
            act 1 0 = 1
            pass = 0
            told 6 = 1
            told 5 = 0
            pass = 0
            told 2 = 1
            pool 0 = 1
            pass = 0
            told 1 = 0
            told 0 = 1
            told 2 = 0
            told 6 = 0
            pass = 0
            pass = 0
            told 1 = 1
            pool 0 = 2
            act 0 0 = 1
            told 5 = 0
            reply 0 0 = 2
            pass = 0
            told 5 = 1
            told 6 = 1
            told 1 = 1
            count 9 = 1
            pass = 0
            told 5 = 0
            told 6 = 0
            told 1 = 1
            told 2 = 0
            told 0 = 1
            pool 0 = 2
            act 0 0 = 1
            pass = 0
            told 1 = 0
            told 0 = 2
            """);
        // Again gives player 0 a turn without a new round.
        script("again of player 0", """
            text phase p: x; act x do again; skip; end win 0;
            compile = 0
            begin 2 0 = 0
            act 0 0 = 1
            pass = 0
            told 0 = 1
            told 1 = 0
            act 0 0 = 1
            pass = 0
            told 0 = 1
            pass = 0
            pass = 0
            told 0 = 2
            told 1 = 0
            """);
    }

    // ---- rules, turns behind one move, winning

    private static void rules() {
        script("rules", """
            text track a 0 to 99 at 0; pool b 0 to 99 at 0; phase p: x; phase q: x; act x do end
            text rule one at p do add b 1; add their a 1; end rule two at q when them = 0 do set my a b; end
            text rule three at p when b > 1 do add b 10; end win 0;
            compile = 0
            begin 3 0 = 0
            pool 0 = 1
            track 1 0 = 1
            track 0 0 = 0
            pass = 0
            pool 0 = 1
            track 0 0 = 0
            pass = 0
            pool 0 = 12
            track 2 0 = 1
            pass = 0
            pass = 0
            pool 0 = 23
            track 0 0 = 1
            pass = 0
            track 2 0 = 23
            """);
        // skip in a rule is looked at behind all the rules of the phase.
        script("skip in a rule", """
            text pool b 0 to 99 at 0; phase p: x; phase q: x; act x do end
            text rule one at q when me = 0 do skip; cancel; end rule two at q do add b 1; end win 0;
            compile = 0
            begin 2 0 = 0
            pass = 0
            pool 0 = 1
            told 1 = 1
            told 2 = 0
            told 5 = 0
            pass = 0
            told 2 = 1
            pool 0 = 2
            """);
    }

    private static void manyTurns() {
        // The first turn and 100 more ones; the 101st is not begun.
        script("many turns at the beginning", """
            text pool b 0 to 999 at 0; phase p: x; act x do end rule r at p do skip; add b 1; end win 0;
            compile = 0
            begin 4 5 = 2
            pool 0 = 101
            told 0 = 26
            told 1 = 0
            told 5 = 1
            told 6 = 0
            told 3 = -1
            told 4 = -1
            begin 2 5 = 2
            pool 0 = 100
            told 0 = 50
            told 1 = 1
            told 5 = 1
            begin 3 0 = 2
            pool 0 = 101
            told 0 = 34
            told 1 = 1
            count 8 = 0
            moves = 0
            back 0 = 2
            """);
        script("many turns behind a move", """
            text pool b 0 to 999 at 0; phase p: x; phase q: x; act x do end
            text rule r at p when b > 0 do skip; again; add b 1; end rule s at q do add b 1; end win 0;
            compile = 0
            begin 2 0 = 0
            pass = 0
            told 2 = 1
            pool 0 = 1
            pass = 2
            pool 0 = 101
            told 1 = 1
            told 0 = 1
            told 2 = 0
            told 6 = 1
            """);
        script("a hundred turns behind a move", """
            text pool b 0 to 999 at 0; phase p: x; act x do add b 1; end
            text rule r at p when b > 0 and b < 100 do skip; again; add b 1; end win 0;
            compile = 0
            begin 2 0 = 0
            act 0 0 = 1
            pass = 0
            pool 0 = 1
            pass = 0
            pool 0 = 100
            told 1 = 1
            told 5 = 0
            """);
    }

    private static void winning() {
        // The one whose turn it is is looked at first, then round the table; only behind what was done.
        script("who wins", """
            text track a 0 to 9 at 0; pool b 0 to 9 at 0; phase p: x, y, w; act x do all set their a 5; end end
            text act y do set their a 5; end act w do set b 1; end
            text reply r do set their a 5; end win my a = 5 and their a <= 5 or b = 1 and them = 0;
            compile = 0
            begin 4 0 = 0
            pass = 0
            pass = 0
            act 0 0 = 1
            told 4 = -1
            pass = 0
            pass = 0
            pass = 1
            state = 1
            told 4 = 2
            told 1 = 2
            begin 4 0 = 0
            pass = 0
            act 1 0 = 1
            pass = 0
            pass = 0
            pass = 1
            told 4 = 0
            begin 4 0 = 0
            pass = 0
            act 2 0 = 1
            pass = 0
            pass = 0
            pass = 1
            told 4 = 3
            begin 4 0 = 0
            act 2 0 = 1
            reply 0 1 = 2
            pass = 0
            pass = 0
            pass = 1
            count 9 = 1
            told 4 = 1
            told 3 = -1
            told 7 = 0
            pool 0 = 0
            moves = 0
            canReply 0 0 = false
            canAct 0 0 = false
            """);
        // It is not looked at the beginning, nor behind a pass, but behind a rule that was done.
        script("when it is looked", """
            text pool b 0 to 9 at 0; pool c 0 to 9 at 0; phase p: x; phase q: x; act x do end
            text rule r at q when me = 1 do end rule s at q when me = 1 do add b 1; end win me = 1;
            compile = 0
            begin 2 0 = 0
            pass = 0
            pass = 0
            told 1 = 1
            pass = 1
            told 4 = 1
            told 2 = 1
            pool 0 = 0
            """);
        script("won ahead of skip", """
            text pool b 0 to 9 at 0; phase p: x; act x do skip; again; set b 1; end win b;
            compile = 0
            begin 2 0 = 0
            act 0 0 = 1
            pass = 1
            told 5 = 1
            told 6 = 1
            told 1 = 0
            """);
        script("depth and round in win", """
            text phase p: x; act x do end reply r do end win depth = 1 and round = 2;
            compile = 0
            begin 2 0 = 0
            act 0 0 = 1
            reply 0 0 = 2
            pass = 0
            pass = 0
            pass = 0
            pass = 0
            told 0 = 2
            act 0 0 = 1
            reply 0 0 = 2
            pass = 1
            told 4 = 0
            """);
    }

    // ---- statements and expressions

    private static void statements() {
        script("set, add, if, all", """
            text track a -9 to 9 at 0; pool s 0 to 999 at 0; phase p: x, y, w, v; act x do set my a 100; set their a -100; end
            text act y do all add their a them + 1; add my a 1; set s s * 10 + them; end add s them * 100; end
            text act w do if my a > their a then set s 1; else set s 2; end if 0 then set s 3; end end
            text act v do all all set s s * 3 + them; end set s s * 3 + them; end set s s * 3 + them; end win 0;
            compile = 0
            begin 2 0 = 0
            act 0 1 = 1
            pass = 0
            track 0 0 = 9
            track 1 0 = -9
            act 2 1 = 1
            pass = 0
            pool 0 = 1
            act 2 0 = 1
            pass = 0
            pool 0 = 2
            act 0 0 = 1
            pass = 0
            track 0 0 = -9
            track 1 0 = -9
            begin 3 0 = 0
            pass = 0
            act 1 2 = 1
            pass = 0
            pass = 0
            track 0 0 = 1
            track 1 0 = 5
            track 2 0 = 3
            pool 0 = 401
            begin 2 0 = 0
            act 3 1 = 1
            pass = 0
            pool 0 = 838
            """);
    }

    private static void values(String expression, long want) {
        RuleStack x = good("pool a -999 to 999 at 7; pool b -999 to 999 at -3; track c 0 to 9 at 4; phase p: x; "
            + "act x do set a " + expression + "; end win 0;");
        x.begin(3, 0);
        x.pass();
        x.act(0, 2);
        x.pass();
        x.pass();
        due("the value of " + expression, "" + x.pool(0), "" + want);
    }

    private static void expressions() {
        values("1 - 2 - 3", -4);
        values("2 + 3 * 4", 14);
        values("(2 + 3) * 4", 20);
        values("100 / 7 / 2", 7);
        values("100 / (7 / 2)", 33);
        values("-7 / 2", -3);
        values("7 / -2", -3);
        values("-7 % 2", -1);
        values("-7 % 4 * 10", -30);
        values("7 % -4", 3);
        values("7 / 0 + 1", 1);
        values("7 % 0 + 2", 2);
        values("- 2 * 3", -6);
        values("2 - - 3", 5);
        values("not 5 + 1", 1);
        values("not 0", 1);
        values("not not 7", 1);
        values("not a = 0", 1);
        values("3 < 4", 1);
        values("4 < 4", 0);
        values("4 <= 4", 1);
        values("5 <= 4", 0);
        values("5 > 4", 1);
        values("4 > 4", 0);
        values("4 >= 4", 1);
        values("3 >= 4", 0);
        values("3 <> 4", 1);
        values("4 <> 4", 0);
        values("4 = 4", 1);
        values("3 = 4", 0);
        values("2 and 4", 1);
        values("2 and 0", 0);
        values("0 or -3", 1);
        values("0 or 0", 0);
        values("1 or 0 and 0", 1);
        values("(1 or 0) and 0", 0);
        values("1 + 1 = 2 and 3 > 2", 1);
        values("a", 7);
        values("b", -3);
        values("me * 100 + them * 10 + players", 123);
        values("round", 1);
        values("depth", 0);
        values("my c + their c", 8);
        // 9999 to the fifth wraps around: 99990000999900000 - ... is reckoned in 64 bits.
        values("9999 * 9999 * 9999 * 9999 * 9999 / 9999 / 9999 / 9999 / 9999", 9999L * 9999 * 9999 * 9999 * 9999 / 9999 / 9999 / 9999 / 9999);
        values("4096 * 4096 * 4096 * 4096 * 4096 * 8 = 0 - 4096 * 4096 * 4096 * 4096 * 4096 * 8", 1);
        values("4096 * 4096 * 4096 * 4096 * 4096 * 8 / -1 = 4096 * 4096 * 4096 * 4096 * 4096 * 8", 1);
        values("4096 * 4096 * 4096 * 4096 * 4096 * 8 % -1", 0);
        values("4096 * 4096 * 4096 * 4096 * 4096 * 8 < 0", 1);
        // A sum that wraps is less than the least.
        RuleStack x = good("pool a 0 to 9 at 5; phase p: x; "
            + "act x do add a 4096 * 4096 * 4096 * 4096 * 4096 * 8 - 1; end win 0;");
        run(x, "add wraps", "begin 2 0 = 0\nact 0 0 = 1\npass = 0\npool 0 = 0");
    }

    private static void dice() {
        RuleStack x = good("pool a 0 to 999 at 0; pool b 0 to 999 at 0; phase p: x, y, w, v, u; act x do set a die 6; end "
            + "act y do set a die 0; set b die -5; end act w do set a die 9999; end "
            + "act v do set a die 6 * 100 + die 10; set b 0 and die 2; end act u do set a die die 20; end win 0;");
        long z = 7;
        run(x, "dice", "begin 2 7 = 0\nact 0 0 = 1\nz = 7\npass = 0");
        z = next(z);
        due("z behind a throw", "" + x.z(), "9098160460397411210");
        due("the throw", "" + x.pool(0), "" + (1 + (z >>> 33) % 6));
        run(x, "dice of less than a side", "act 1 0 = 1\npass = 0\npool 0 = 1\npool 1 = 1");
        z = next(next(z));
        due("z behind throws of one side", "" + x.z(), "" + z);
        run(x, "dice of too many sides", "act 2 0 = 1\npass = 0");
        z = next(z);
        due("a throw of 1000 sides", "" + x.pool(0), "" + Math.min(999, 1 + (z >>> 33) % 1000));
        run(x, "dice in their order", "act 3 0 = 1\npass = 0\npool 1 = 0");
        z = next(z);
        long first = 1 + (z >>> 33) % 6;
        z = next(z);
        due("the left one first", "" + x.pool(0), "" + (first * 100 + 1 + (z >>> 33) % 10));
        z = next(z);
        due("both operands are reckoned", "" + x.z(), "" + z);
        run(x, "a die of a die", "act 4 0 = 1\npass = 0");
        z = next(z);
        first = 1 + (z >>> 33) % 20;
        z = next(z);
        due("a die of a die", "" + x.pool(0), "" + (1 + (z >>> 33) % first));
        due("z", "" + x.z(), "" + z);
    }

    private static long next(long z) {
        return z * 6364136223846793005L + 1442695040888963407L;
    }

    // ---- promises 11 to 14

    private static void canAndMoves() {
        script("can and moves", """
            text track a 0 to 9 at 3; phase p: x, y, x; phase q: w; act x when them > me do end act y do end
            text act w when 0 do end reply r when them <> me do end reply s when depth > 1 do skip; end win 0;
            compile = 0
            canAct 0 0 = IOOBE
            canReply 0 0 = IOOBE
            moves = 0
            begin 3 0 = 0
            moves = 6
            canAct 0 0 = false
            canAct 0 1 = true
            canAct 0 2 = true
            canAct 1 0 = true
            canAct 2 0 = false
            canAct 3 0 = IOOBE
            canAct -1 0 = IOOBE
            canAct 0 3 = IOOBE
            canAct 0 -1 = IOOBE
            canReply 0 0 = false
            canReply 2 0 = IOOBE
            canReply 0 3 = IOOBE
            pass = 0
            moves = 1
            canAct 1 0 = false
            canAct 2 0 = false
            pass = 0
            moves = 5
            act 1 1 = 1
            moves = 3
            canAct 1 0 = false
            canReply 0 0 = true
            canReply 0 1 = true
            canReply 0 2 = false
            canReply 1 0 = false
            reply 0 0 = 2
            moves = 6
            canReply 1 0 = true
            text win
            compile = 1
            moves = 0
            canAct 0 0 = IOOBE
            """);
    }

    private static void stateAndTold() {
        script("state and told", """
            text pool a 0 to 9 at 0; phase p: x; phase q: y; act x do again; end act y do set a 1; end
            text reply r do skip; end win a;
            compile = 0
            state = -1
            told 0 = -1
            told 7 = -1
            told 8 = IOOBE
            told -1 = IOOBE
            begin 3 0 = 0
            state = 0
            told 0 = 1
            told 1 = 0
            told 2 = 0
            told 3 = -1
            told 4 = -1
            told 5 = 0
            told 6 = 0
            told 7 = 0
            told 8 = IOOBE
            act 0 0 = 1
            told 3 = 1
            reply 0 0 = 2
            told 3 = 2
            pass = 0
            told 3 = 0
            told 7 = 1
            pass = 0
            told 5 = 1
            told 6 = 0
            told 3 = 1
            told 7 = 0
            pass = 0
            told 7 = 1
            pass = 0
            told 1 = 0
            told 5 = 0
            told 6 = 0
            pass = 0
            told 2 = 1
            act 0 0 = ISE
            act 1 0 = 1
            pass = 0
            pass = 1
            state = 1
            told 0 = 1
            told 1 = 0
            told 2 = 1
            told 3 = -1
            told 4 = 0
            told 7 = 0
            told -1 = IOOBE
            """);
    }

    // ---- promises 15, 16, 20, 21

    private static void values() {
        script("track, pool, z, mean", """
            text track a -9 to 9 at 1; track b 0 to 999 at 500; pool c -5 to 5 at -5; pool d 0 to 7 at 2;
            text phase p: x; act x do set their a -9; add c 1; set their b die 6 + 100; end win 0;
            compile = 0
            pool 0 = -5
            pool 1 = 2
            pool 2 = IOOBE
            pool -1 = IOOBE
            track 0 0 = IOOBE
            mean 0 = 0.0
            mean 1 = 0.0
            mean 2 = IOOBE
            mean -1 = IOOBE
            z = 0
            begin 3 -1 = 0
            z = -1
            track 0 0 = 1
            track 2 1 = 500
            track 3 0 = IOOBE
            track -1 0 = IOOBE
            track 0 2 = IOOBE
            track 0 -1 = IOOBE
            mean 0 = 1.0
            act 0 1 = 1
            pass = 0
            pass = 0
            track 0 0 = 1
            track 1 0 = -9
            track 2 0 = 1
            pool 0 = -4
            pool 1 = 2
            pool 2 = IOOBE
            mean 0 = -2.3333333333333335
            mean 2 = IOOBE
            z = -4921441182957829598
            """);
    }

    // ---- promises 17 to 19

    private static void stackAndMoves() {
        script("stack and move", """
            text phase p: x, y; act x do end act y do end reply r do end reply s do end win 0;
            compile = 0
            stack 0 0 = IOOBE
            move 0 0 = IOOBE
            begin 3 0 = 0
            stack 0 0 = IOOBE
            move 0 0 = IOOBE
            pass = 0
            act 1 2 = 1
            pass = 0
            reply 1 0 = 2
            stack 0 0 = 0
            stack 0 1 = 1
            stack 0 2 = 1
            stack 0 3 = 2
            stack 1 0 = 1
            stack 1 1 = 1
            stack 1 2 = 0
            stack 1 3 = 0
            stack 2 0 = IOOBE
            stack -1 0 = IOOBE
            stack 0 4 = IOOBE
            stack 0 -1 = IOOBE
            stack 2147483647 0 = IOOBE
            move 0 0 = 2
            move 0 1 = -1
            move 0 2 = -1
            move 0 3 = 0
            move 1 0 = 0
            move 1 1 = 1
            move 1 2 = 2
            move 1 3 = 1
            move 2 0 = 2
            move 2 3 = 2
            move 3 0 = 1
            move 3 1 = 1
            move 3 2 = 0
            move 3 3 = 0
            move 4 0 = IOOBE
            move -1 0 = IOOBE
            move 0 4 = IOOBE
            move 0 -1 = IOOBE
            pass = 0
            pass = 0
            stack 0 1 = 1
            stack 1 0 = IOOBE
            move 5 3 = 2
            """);
    }

    private static void back() {
        script("back", """
            text track a 0 to 99 at 0; phase p: x; act x do add my a die 6; end reply r do cancel; end win my a > 90;
            compile = 0
            back 0 = ISE
            back 1 = IAE
            begin 3 44 = 0
            back 0 = 0
            back 1 = IAE
            back -1 = IAE
            z = 44
            act 0 1 = 1
            pass = 0
            pass = 0
            pass = 0
            act 0 0 = 1
            reply 0 2 = 2
            count 8 = 6
            back 7 = IAE
            back 6 = 0
            count 8 = 6
            count 9 = 2
            back 5 = 0
            count 9 = 1
            told 3 = 2
            told 1 = 1
            move 5 0 = IOOBE
            pass = 0
            pass = 0
            count 8 = 7
            back 2 = 0
            count 8 = 2
            count 9 = 1
            told 3 = 2
            told 7 = 1
            z = 44
            track 0 0 = 0
            back 0 = 0
            count 8 = 0
            count 9 = 0
            told 3 = -1
            count 7 = 3
            """);
        script("back from the end", """
            text pool a 0 to 1 at 0; phase p: x; act x do set a 1; end win a;
            compile = 0
            begin 2 0 = 0
            pass = 0
            act 0 0 = 1
            pass = 1
            told 4 = 1
            back 3 = 1
            told 4 = 1
            back 2 = 0
            told 4 = -1
            told 3 = 0
            pool 0 = 0
            pass = 1
            back 0 = 0
            told 1 = 0
            """);
    }

    private static void lastMove() {
        String text = "pool a 0 to 1 at 0; phase p: x, y; act x do again; end act y do set a 1; end reply r do end win a;";
        for (int last = 0; last < 3; last++) {
            RuleStack x = good(text);
            x.begin(2, 0);
            for (int i = 0; i < 124; i++) {
                x.act(0, 0);
                x.pass();
            }
            due("moves", x.count(8) + " " + x.state(), "248 0");
            run(x, "the 250th move", last == 0 ? """
                act 0 0 = 1
                reply 0 1 = 2
                state = 2
                count 9 = 2
                told 6 = 1
                """ : last == 1 ? """
                act 1 0 = 1
                pass = 1
                state = 1
                told 4 = 0
                """ : """
                pass = 0
                told 1 = 0
                pass = 2
                told 1 = 1
                """);
            run(x, "behind the 250th move", """
                count 8 = 250
                told 3 = -1
                told 7 = 0
                moves = 0
                pass = ISE
                reply 0 0 = ISE
                canReply 0 0 = false
                back 249 = 0
                count 8 = 249
                back 250 = IAE
                pass = %s
                count 8 = 250
                back 250 = %s
                """.formatted(last == 1 ? "1" : "2", last == 1 ? "1" : "2"));
        }
    }

    // ---- promise 22

    private static void digests() {
        RuleStack x = good("track a 0 to 9 at 3; track b 0 to 9 at 4; pool c 0 to 9 at 5; phase p: x; phase q: x; "
            + "act x do add their a 1; end reply r do add c die 3; end rule u at q do end win 0;");
        due("digest without a game", "" + x.digest(), "" + digest(2, 1, 2, 1, 1, 1, 0, 0, 0, 0,
            -1, -1, -1, -1, -1, -1, -1, -1, -1, 0));
        x.begin(2, 70);
        due("digest of a game", "" + x.digest(), "" + digest(2, 1, 2, 1, 1, 1, 0, 2, 0, 0,
            0, 1, 0, 0, -1, -1, 0, 0, 0, 70, 3, 4, 3, 4, 5));
        x.pass();
        x.act(0, 1);
        x.reply(0, 0);
        write(x, "win");
        due("digest of a stack", "" + x.digest(), "" + digest(2, 1, 2, 1, 1, 1, 3, 2, 3, 2,
            0, 1, 0, 1, 0, -1, 0, 0, 0, 70, 3, 4, 3, 4, 5, 0, 0, 0, 1, 1, 0, 1, 0,
            2, -1, -1, 0, 0, 0, 1, 0, 1, 0, 0, 1));
        due("digest twice", "" + x.digest(), "" + x.digest());
    }

    private static long digest(long... numbers) {
        long d = 419;
        for (long number : numbers) {
            d = d * 31 + number;
        }
        return d;
    }
}
